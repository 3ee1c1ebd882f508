section ZPG
variable {T : Nat → Int32} {e p b t L : Nat} {m mm : Nat → Nat → Int32} {W : Nat → Int32}
theorem deeds_rx (h : PA T e mm) (hG : PG mm) (ht : t < 4) : ∀ (n L : Nat) (m : Nat → Nat → Int32) (W : Nat → Int32) (p b : Nat), L + n = 24 → p ≤ e → TLD m W t L → TLP (yl_prog T e t n L m p b) (l_deeds mm t n L W p b) := by
  intro n
  induction n with
  | zero =>
    intro L m W p b hk hp hd
    obtain rfl : L = 24 := by omega
    rw [yl_prog, l_deeds]
    refine Or.inl ⟨rfl, rfl, ?_⟩
    show lkB T e p = (q_readDeed mm W p t 24).2.2.2
    rw [deed_24, lk_eq h hp]
    rfl
  | succ n ih =>
    intro L m W p b hk hp hd
    have hr := readDeed_le (m := mm) (W := W) (p := p) (t := t) (L := L) hG (by rw [h.1]; exact hp)
    have r := deed_rx h hG hp ht (by omega) hd
    rw [yl_prog, l_deeds]
    unfold RB at hr
    rw [h.1] at hr
    generalize y_readDeed T e m p t = X at r ⊢
    generalize q_readDeed mm W p t L = Y at r hr ⊢
    rcases r with ⟨r1, r2, r3⟩ | ⟨r1, r2, r3, r4⟩
    · rw [r1, r2, zne0, cnF, cnF]
      exact Or.inl ⟨rfl, rfl, r3⟩
    · rw [r1, r2, zn1, cnT, cnT, r3, sign_eq h hr.1]
      dsimp only
      have hp2 := passes_le (m := mm) (p := Y.2.2.1) (c := 44) hG (by rw [h.1]; exact hr.1)
      rw [sign_eq h hr.1, h.1] at hp2
      cases zc1 .ne (y_skipSign T e (lkB T e Y.2.2.1) 44).1 with
      | true =>
        rw [cnT, cnT]
        exact ih _ _ _ _ _ (by omega) hp2.1 r4
      | false =>
        rw [cnF, cnF]
        exact Or.inr ⟨rfl, rfl, rfl, r4.1⟩
end ZPG
