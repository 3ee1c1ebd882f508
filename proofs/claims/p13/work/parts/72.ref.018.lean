theorem c_due {σ : Nat → Nat × (Nat → Int32)} {yy : (Nat → Nat → Int64) × Bool × Nat × Nat} {m : Nat → Nat → Int32} {W : Nat → Int32} {t : Int32} (hw : WG W) (hL : LT W) : zF σ 12 1890 [.ref 137, .int t] (zS1, zrow m 138 W, yy) (.inl (some (.int (q_due m W t).1))) (zS1, zrow ((q_due m W t).2.2) 138 ((q_due m W t).2.1), yy) := by
  intro d hd
  obtain ⟨d, rfl⟩ : ∃ k, d = k + 1 := ⟨d - 1, by omega⟩
  exact p_due hd hw hL
