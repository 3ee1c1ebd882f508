/-! a text read alike -/
theorem look_end {T : Nat → Int32} {e : Nat} (he : e ≤ 400) : ∀ n p, p + n = e → (yl_look T e n p).1 = e ∨ zc2 .ne (T (yl_look T e n p).1) (Int32.ofNat 32) = true := by
  intro n
  induction n with
  | zero => intro p hp; exact Or.inl (by rw [yl_look]; omega)
  | succ n ih =>
    intro p hp
    rw [yl_look, zcge_f (by omega) (by omega) (by omega), cnF]
    cases hz : zc2 .ne (T p) (Int32.ofNat 32) with
    | true => exact Or.inr hz
    | false => exact ih (p + 1) (by omega)
theorem lk_e {T : Nat → Int32} {e : Nat} : lkB T e e = e := by
  unfold lkB
  rw [Nat.sub_self, yl_look]
theorem lk_lk {T : Nat → Int32} {e p : Nat} (he : e ≤ 400) (hp : p ≤ e) : lkB T e (lkB T e p) = lkB T e p := by
  have h3 := lkB_le (T := T) he hp
  have h4 := look_end (T := T) he (e - p) p (by omega)
  have e5 : (yl_look T e (e - p) p).1 = lkB T e p := rfl
  rw [e5] at h4
  generalize lkB T e p = r at h3 h4 ⊢
  by_cases q : r = e
  · rw [q]; exact lk_e
  · have h5 : zc2 .ne (T r) (Int32.ofNat 32) = true := by
      rcases h4 with h4 | h4
      · exact absurd h4 q
      · exact h4
    obtain ⟨k, hk⟩ : ∃ k, e - r = k + 1 := ⟨e - r - 1, by omega⟩
    unfold lkB
    rw [hk, yl_look, zcge_f (by omega) (by omega) (by omega), cnF, h5, cnT]
noncomputable def TLA (X : Int32 × (Nat → Nat → Int32) × Nat × Nat) (Y : Int32 × (Nat → Int32) × Nat × Nat) : Prop := (X.1 = -1 ∧ Y.1 = Int32.ofNat 1 ∧ TLK X.2.1 Y.2.1) ∨ (Y.1 = Int32.ofNat 0 ∧ X.1 = Int32.ofNat Y.2.2.2)
theorem zne_same (x : Int32) : zc2 .ne x x = false := by
  rw [zne2_n, show zc2 .eq x x = true from decide_eq_true rfl]
  rfl
section ZTX
variable {T : Nat → Int32} {e : Nat} {mm : Nat → Nat → Int32}
theorem all_rx (h : PA T e mm) (hG : PG mm) : ∀ (n k : Nat) (m : Nat → Nat → Int32) (W : Nat → Int32) (p b : Nat), k + n = 14 → p ≤ e → TLK m W → TLA (yl_all T e n k m p b) (l_readText mm n k W p b) := by
  have he := h.2.1
  intro n
  induction n with
  | zero =>
    intro k m W p b _ hp _
    rw [yl_all, l_readText]
    refine Or.inr ⟨rfl, ?_⟩
    show Int32.ofNat (lkB T e p) = Int32.ofNat (q_letters mm p).2
    rw [lk_eq h hp]
    rfl
  | succ n ih =>
    intro k m W p b hk hp hd
    have l2 := letters_le (m := mm) (p := p) hG (by rw [h.1]; exact hp)
    have hr := readLine_RB (m := mm) (W := W) (p := (q_letters mm p).1) (b := (q_letters mm p).2) hG l2.1 l2.2
    have r := line_rx h hG hp hd
    rw [yl_all, l_readText]
    unfold RB at hr
    rw [h.1] at hr
    generalize y_readLine T e m p = X at r ⊢
    generalize q_readLine mm W (q_letters mm p).1 (q_letters mm p).2 = Y at r hr ⊢
    rcases r with ⟨r1, r2, r3⟩ | ⟨r1, r2, r3, r4⟩
    · rw [r1, r2, zne0, cnF, cnF]
      exact Or.inr ⟨rfl, congrArg Int32.ofNat r3⟩
    · have q1 := lkB_le (T := T) he hr.1
      have q2 := lk_lk (T := T) he hr.1
      rw [r1, r2, zn1, cnT, cnT, r3, ← lk_eq h hr.1, h.1]
      generalize lkB T e Y.2.2.1 = Q at q1 q2 ⊢
      by_cases qe : Q = e
      · subst qe
        rw [zclt_f (by omega) (by omega) (Nat.le_refl _), zne_same, cnF, cnF]
        exact Or.inl ⟨rfl, rfl, r4⟩
      · have hp2 := passes_le (m := mm) (p := Q) (c := 59) hG (by rw [h.1]; omega)
        rw [zclt (by omega) (by omega) (show Q < e by omega), tne_tt (by omega) (by omega) qe, cnT, cnT]
        rw [sign_eq h (by omega), q2, h.1] at hp2
        rw [sign_eq h (by omega), q2]
        dsimp only at hp2 ⊢
        cases zc1 .ne (y_skipSign T e Q 59).1 with
        | true =>
          rw [cnT, cnT]
          exact ih _ _ _ _ _ (by omega) hp2.1 r4
        | false =>
          rw [cnF, cnF]
          exact Or.inr ⟨rfl, rfl⟩
theorem readAll_rx {m : Nat → Nat → Int32} {W : Nat → Int32} (h : PA T e mm) (hG : PG mm) (hk : TLK m W) : TLA (y_readAll18 T e m 0) (q_readText mm W 0) := by
  have he := h.2.1
  have q1 := lkB_le (T := T) he (Nat.zero_le e)
  unfold y_readAll18 q_readText
  rw [← lk_eq h (Nat.zero_le e), h.1]
  generalize lkB T e 0 = Q at q1 ⊢
  by_cases qe : Q = e
  · subst qe
    rw [zclt_f (by omega) (by omega) (Nat.le_refl _), zne_same, cnF, cnF]
    exact Or.inl ⟨rfl, rfl, hk⟩
  · rw [zclt (by omega) (by omega) (show Q < e by omega), tne_tt (by omega) (by omega) qe, cnT, cnT]
    exact all_rx h hG 14 0 _ _ _ _ rfl q1.2 hk
end ZTX
