theorem c_dueOf {σ : Nat → Nat × (Nat → Int32)} {yy : (Nat → Nat → Int64) × Bool × Nat × Nat} {m : Nat → Nat → Int32} {W : Nat → Int32} {t : Nat} (hw : WG W) (hL : LT W) (ht : t < 4) : zF σ 11 1889 [.ref 137, .int (Int32.ofNat t)] (zS1, zrow m 138 W, yy) (.inl (some (.int (q_dueOf m W t).1))) (zS1, zrow ((q_dueOf m W t).2.2) 138 ((q_dueOf m W t).2.1), yy) := by
  intro d hd
  obtain ⟨d, rfl⟩ : ∃ k, d = k + 1 := ⟨d - 1, by omega⟩
  exact p_dueOf hd hw hL ht
