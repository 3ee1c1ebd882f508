noncomputable def q_partsOf (W : Nat → Int32) (t : Nat) : Int32 := (l_partsOf W t ((nv W (376 + 103 * t + 22))) 0 0)
theorem p_partsOf {σ : Nat → Nat × (Nat → Int32)} {yy : (Nat → Nat → Int64) × Bool × Nat × Nat} {m : Nat → Nat → Int32} {W : Nat → Int32} {t : Nat} {d : Nat} (hd : 6 ≤ d + 1) (hw : WG W) (ht : t < 4) : zEv σ (d + 1) 1900 0 [some (.ref 137), some (.int (Int32.ofNat t)), none, none] [] (zS1, zrow m 138 W, yy) (.inl (some (.int (q_partsOf W t)))) (zS1, zrow m 138 W, yy) := by
  refine zeKn (c := 0) rfl rfl rfl ?_
  refine zeP rfl rfl ?_
  refine zeKn (c := 0) rfl rfl rfl ?_
  refine zeP rfl rfl ?_
  simp only [q_partsOf, cond_true, cond_false]
  exact w_partsOf (t := t) (W := W) (m := m) (by omega) hw ht (hw.2 t ht).2.2.2.1.2.2 ((nv W (376 + 103 * t + 22))) (0) (0)   (by omega) (by omega)
