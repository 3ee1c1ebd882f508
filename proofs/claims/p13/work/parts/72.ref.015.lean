noncomputable def q_dueOf (m : Nat → Nat → Int32) (W : Nat → Int32) (t : Nat) : Int32 × (Nat → Int32) × (Nat → Nat → Int32) := (l_dueOf t 401 0 W m)
theorem p_dueOf {σ : Nat → Nat × (Nat → Int32)} {yy : (Nat → Nat → Int64) × Bool × Nat × Nat} {m : Nat → Nat → Int32} {W : Nat → Int32} {t : Nat} {d : Nat} (hd : 11 ≤ d + 1) (hw : WG W) (hL : LT W) (ht : t < 4) : zEv σ (d + 1) 1889 0 [some (.ref 137), some (.int (Int32.ofNat t)), none] [] (zS1, zrow m 138 W, yy) (.inl (some (.int (q_dueOf m W t).1))) (zS1, zrow ((q_dueOf m W t).2.2) 138 ((q_dueOf m W t).2.1), yy) := by
  refine zeKn (c := 0) rfl rfl rfl ?_
  refine zeP rfl rfl ?_
  simp only [q_dueOf, cond_true, cond_false]
  exact w_dueOf (t := t) (by omega) ht 401 (0) W m (by omega) hw hL
