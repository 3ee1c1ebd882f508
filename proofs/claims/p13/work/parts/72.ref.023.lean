noncomputable def q_plain (m : Nat → Nat → Int32) (W : Nat → Int32) : Int32 × (Nat → Int32) × (Nat → Nat → Int32) := ((q_dueBy ((zm2 m 137 0 (Int32.ofNat 0))) W 16).1, (q_dueBy ((zm2 m 137 0 (Int32.ofNat 0))) W 16).2.1, (q_dueBy ((zm2 m 137 0 (Int32.ofNat 0))) W 16).2.2)
theorem p_plain {σ : Nat → Nat × (Nat → Int32)} {yy : (Nat → Nat → Int64) × Bool × Nat × Nat} {m : Nat → Nat → Int32} {W : Nat → Int32} {d : Nat} (hd : 13 ≤ d + 1) (hw : WG W) (hL : LT W) : zEv σ (d + 1) 1893 0 [some (.ref 137)] [] (zS1, zrow m 138 W, yy) (.inl (some (.int (q_plain m W).1))) (zS1, zrow ((q_plain m W).2.2) 138 ((q_plain m W).2.1), yy) := by
  refine zeP rfl rfl ?_
  refine zeKn (c := 0) rfl rfl rfl ?_
  refine zeFP rfl rfl rfl ?_
  refine zeP rfl rfl ?_
  refine zeKn (c := 16) rfl rfl rfl ?_
  refine zeCF rfl rfl rfl rfl rfl rfl (c_dueBy (m := (zm2 m 137 0 (Int32.ofNat 0))) (W := W) (b := 16) hw hL) (by omega) ?_
  dsimp only [Option.toList, List.cons_append, List.nil_append]
  exact zeRe rfl rfl rfl rfl (by rfl) (by rfl)
