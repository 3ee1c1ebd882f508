noncomputable def e_back (m : Nat → Nat → Int32) : Int32 × (Nat → Nat → Int32) := (bif zc1 .ne (m 0 3) then ((Int32.ofNat 1), (zm2 ((x_copyFrom m 1 85)) 131 8 (Int32.ofNat 0))) else ((Int32.ofNat 0), m))
theorem ec_back {σ : Nat → Nat × (Nat → Int32)} {yy : (Nat → Nat → Int64) × Bool × Nat × Nat} {m : Nat → Nat → Int32} (hC3 : CG m 85) (hK3 : KX m 85 P0) : zF σ 4 1636 [.ref 0] (zS1, m, yy) (.inl (some (.int (e_back m).1))) (zS1, (e_back m).2, yy) := by
  intro d hd
  obtain ⟨d, rfl⟩ : ∃ k, d = k + 1 := ⟨d - 1, by omega⟩
  show zEv σ (d + 1) 1636 0 [some (.ref 0)] [] _ _ _
  refine zeP rfl rfl ?_
  refine zeGI rfl rfl zS00 rfl rfl ?_
  refine zeB1 rfl rfl (fun h1 => ?_) (fun h1 => ?_)
  · refine zeP rfl rfl ?_
    refine zeGR rfl rfl zS00 rfl rfl ?_
    refine zeP rfl rfl ?_
    refine zeGR rfl rfl zS00 rfl rfl ?_
    refine zeCV rfl rfl rfl rfl (shM bb1) rfl (xc_copyFrom (m := m) (b := 1) (c := 85) bb1 bb85 (Or.inl (by omega)) hC3.c hC3.c4 (fun t ht => (hK3.1 t ht).2.2.2.1)) (by omega) ?_
    dsimp only [Option.toList, List.cons_append, List.nil_append]
    refine zeP rfl rfl ?_
    refine zeGR rfl rfl zS00 rfl rfl ?_
    refine zeCV rfl rfl rfl rfl zS131 rfl (xc_forget (m := (x_copyFrom m 1 85))) (by omega) ?_
    dsimp only [Option.toList, List.cons_append, List.nil_append]
    refine zeKn (c := 1) rfl rfl rfl ?_
    exact zeRe rfl rfl rfl rfl (by simp only [e_back, h1, cond_true, cond_false] <;> rfl) (by simp only [e_back, h1, cond_true, cond_false] <;> rfl)
  · refine zeKn (c := 0) rfl rfl rfl ?_
    exact zeRe rfl rfl rfl rfl (by simp only [e_back, h1, cond_true, cond_false] <;> rfl) (by simp only [e_back, h1, cond_true, cond_false] <;> rfl)
