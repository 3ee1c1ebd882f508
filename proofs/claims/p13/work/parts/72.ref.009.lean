theorem goesT_ok {q : Nat} : ∀ (n k : Nat) (W : Nat → Int32) (m : Nat → Nat → Int32), WG W → LT W → WG (l_goesT q n k W m).2.1 ∧ LT (l_goesT q n k W m).2.1 := by
  intro n
  induction n with
  | zero => intro k W m h hL; exact ⟨h, hL⟩
  | succ n ih =>
    intro k W m h hL
    rw [l_goesT]
    refine cndh (fun q : QT => WG q.2.1 ∧ LT q.2.1) (fun _ => ⟨h, hL⟩) (fun hc => cndi (fun q : QT => WG q.2.1 ∧ LT q.2.1) ⟨h, hL⟩ ?_)
    obtain ⟨-, n4, nk⟩ := next_n h hL hc
    have hs := steps_ok (m := m) nk n4
    exact ih _ _ _ hs.1 (LT_of hs.2 n4)
