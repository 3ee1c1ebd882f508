noncomputable def q_dueOfX (m : Nat → Nat → Int32) (W : Nat → Int32) : Int32 × (Nat → Int32) × (Nat → Nat → Int32) := (l_dueOfX 401 0 W m)
theorem p_dueOfX {σ : Nat → Nat × (Nat → Int32)} {yy : (Nat → Nat → Int64) × Bool × Nat × Nat} {m : Nat → Nat → Int32} {W : Nat → Int32} {d : Nat} (hd : 11 ≤ d + 1) (hw : WG W) (hL : LT W) : zEv σ (d + 1) 1889 0 [some (.ref 137), some (.int (-1)), none] [] (zS1, zrow m 138 W, yy) (.inl (some (.int (q_dueOfX m W).1))) (zS1, zrow ((q_dueOfX m W).2.2) 138 ((q_dueOfX m W).2.1), yy) := by
  refine zeKn (c := 0) rfl rfl rfl ?_
  refine zeP rfl rfl ?_
  simp only [q_dueOfX, cond_true, cond_false]
  exact w_dueOfX  (by omega)  401 (0) W m (by omega) hw hL
