theorem c_dueBy {σ : Nat → Nat × (Nat → Int32)} {yy : (Nat → Nat → Int64) × Bool × Nat × Nat} {m : Nat → Nat → Int32} {W : Nat → Int32} {b : Nat} (hw : WG W) (hL : LT W) : zF σ 12 1891 [.ref 137, .int (Int32.ofNat b)] (zS1, zrow m 138 W, yy) (.inl (some (.int (q_dueBy m W b).1))) (zS1, zrow ((q_dueBy m W b).2.2) 138 ((q_dueBy m W b).2.1), yy) := by
  intro d hd
  obtain ⟨d, rfl⟩ : ∃ k, d = k + 1 := ⟨d - 1, by omega⟩
  exact p_dueBy hd hw hL
