theorem c_plain {σ : Nat → Nat × (Nat → Int32)} {yy : (Nat → Nat → Int64) × Bool × Nat × Nat} {m : Nat → Nat → Int32} {W : Nat → Int32} (hw : WG W) (hL : LT W) : zF σ 13 1893 [.ref 137] (zS1, zrow m 138 W, yy) (.inl (some (.int (q_plain m W).1))) (zS1, zrow ((q_plain m W).2.2) 138 ((q_plain m W).2.1), yy) := by
  intro d hd
  obtain ⟨d, rfl⟩ : ∃ k, d = k + 1 := ⟨d - 1, by omega⟩
  exact p_plain hd hw hL
