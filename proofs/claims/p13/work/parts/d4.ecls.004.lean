noncomputable def e_image (m : Nat → Nat → Int32) : (Nat → Nat → Int32) := (zm2 ((x_copyFrom m 85 1)) 0 3 ((Int32.ofNat 1)))
theorem ec_image {σ : Nat → Nat × (Nat → Int32)} {yy : (Nat → Nat → Int64) × Bool × Nat × Nat} {m : Nat → Nat → Int32} (hC : CG m 1) (hK : KX m 1 P0) : zF σ 4 1635 [.ref 0] (zS1, m, yy) (.inl none) (zS1, (e_image m), yy) := by
  intro d hd
  obtain ⟨d, rfl⟩ : ∃ k, d = k + 1 := ⟨d - 1, by omega⟩
  show zEv σ (d + 1) 1635 0 [some (.ref 0)] [] _ _ _
  refine zeP rfl rfl ?_
  refine zeGR rfl rfl zS00 rfl rfl ?_
  refine zeP rfl rfl ?_
  refine zeGR rfl rfl zS00 rfl rfl ?_
  refine zeCV rfl rfl rfl rfl (shM bb85) rfl (xc_copyFrom (m := m) (b := 85) (c := 1) bb85 bb1 (Or.inr (by omega)) hC.c hC.c4 (fun t ht => (hK.1 t ht).2.2.2.1)) (by omega) ?_
  dsimp only [Option.toList, List.cons_append, List.nil_append]
  refine zeP rfl rfl ?_
  refine zeKn (c := 1) rfl rfl rfl ?_
  refine zePB rfl rfl zS00 rfl (by decide) ?_
  exact zeRe rfl rfl rfl rfl (by rfl) (by rfl)
