noncomputable def e_goDraw (m : Nat → Nat → Int32) (n0 : Nat) : Int32 × (Nat → Nat → Int32) := ((xl_goDrawL n0 n0 0 ((zm2 m 131 8 (Int32.ofNat 0)))).1, (xl_goDrawL n0 n0 0 ((zm2 m 131 8 (Int32.ofNat 0)))).2)
theorem ec_goDraw {σ : Nat → Nat × (Nat → Int32)} {yy : (Nat → Nat → Int64) × Bool × Nat × Nat} {m : Nat → Nat → Int32} {n0 : Nat} (hC : CG m 1) (hK : KX m 1 P0) (hn0 : n0 ≤ 100) : zF σ 6 1618 [.ref 0, .int (Int32.ofNat n0), .int (Int32.ofNat 1)] (zS1, m, yy) (.inl (some (.int (e_goDraw m n0).1))) (zS1, (e_goDraw m n0).2, yy) := by
  intro d hd
  obtain ⟨d, rfl⟩ : ∃ k, d = k + 1 := ⟨d - 1, by omega⟩
  show zEv σ (d + 1) 1618 0 [some (.ref 0), some (.int (Int32.ofNat n0)), some (.int (Int32.ofNat 1)), none, none] [] _ _ _
  refine zeP rfl rfl ?_
  refine zeGR rfl rfl zS00 rfl rfl ?_
  refine zeCV rfl rfl rfl rfl zS131 rfl (xc_forget (m := m)) (by omega) ?_
  dsimp only [Option.toList, List.cons_append, List.nil_append]
  refine zeKn (c := 0) rfl rfl rfl ?_
  refine zeP rfl rfl ?_
  simp only [e_goDraw, cond_true, cond_false]
  exact xw_goDrawL (n0 := n0) (by omega) hn0 n0 (0) (none)  ((zm2 m 131 8 (Int32.ofNat 0))) (by omega) (hC.far (by omega)) (hK.far (by omega))
