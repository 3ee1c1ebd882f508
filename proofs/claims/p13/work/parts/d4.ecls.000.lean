noncomputable def e_touches (m : Nat → Nat → Int32) (t : Int32) (x : Int32) : (Int32 ⊕ Nat) := (bif sOK m t then (bif tOK x then (bif zc1 .ne (Int32.ofNat (x.toNatClampNeg)) then (.inl ((((x_blocksOf3 m 1 (t.toNatClampNeg)) ||| (x_blocksOf0 m 1 (t.toNatClampNeg))) ||| (x_blocksOf1 m 1 (t.toNatClampNeg))))) else (.inl ((((x_blocksOf2 m 1 (t.toNatClampNeg)) ||| (x_blocksOf0 m 1 (t.toNatClampNeg))) ||| (x_blocksOf1 m 1 (t.toNatClampNeg)))))) else (.inr 1)) else (.inr 0))
theorem ec_touches {σ : Nat → Nat × (Nat → Int32)} {yy : (Nat → Nat → Int64) × Bool × Nat × Nat} {m : Nat → Nat → Int32} {t : Int32} {x : Int32} (hC : CG m 1) (hK : KX m 1 P0) : zF σ 3 1626 [.ref 0, .int t, .int x] (zS1, m, yy) (xo (e_touches m t x)) (zS1, m, (xy yy (e_touches m t x))) := by
  intro d hd
  obtain ⟨d, rfl⟩ : ∃ k, d = k + 1 := ⟨d - 1, by omega⟩
  show zEv σ (d + 1) 1626 0 [some (.ref 0), some (.int t), some (.int x), none, none] [] _ _ _
  refine zeP rfl rfl ?_
  refine zeP rfl rfl ?_
  cases h1 : sOK m t with
  | false =>
    exact zeThX rfl rfl rfl rfl rfl rfl (xn_1638 (m := m) (x := t) h1) (by omega) rfl rfl (by simp only [e_touches, h1, cond_true, cond_false] <;> rfl) (by simp only [e_touches, h1, cond_true, cond_false] <;> rfl)
  | true =>
    have c1 := xk_1638 (x := t) hC h1
    refine zeCV rfl rfl rfl rfl zS00 rfl (xo_1638 (m := m) (x := t) h1 hC) (by omega) ?_
    dsimp only [Option.toList, List.cons_append, List.nil_append]
    refine zeP rfl rfl ?_
    have t4 : t.toNatClampNeg < 4 := by have := hC.c4; omega
    refine zeP rfl rfl ?_
    cases h2 : tOK x with
    | false =>
      exact zeThX rfl rfl rfl rfl rfl rfl (xn_1640 (m := m) (x := x) h2) (by omega) rfl rfl (by simp only [e_touches, h1, h2, cond_true, cond_false] <;> rfl) (by simp only [e_touches, h1, h2, cond_true, cond_false] <;> rfl)
    | true =>
      have c2 := xk_1640 (x := x) h2
      refine zeCF rfl rfl rfl rfl rfl rfl (xo_1640 (m := m) (x := x) h2) (by omega) ?_
      dsimp only [Option.toList, List.cons_append, List.nil_append]
      refine zeB1 rfl rfl (fun h3 => ?_) (fun h3 => ?_)
      · refine zeKn (c := 3) rfl rfl rfl ?_
        refine zeP rfl rfl ?_
        refine zeP rfl rfl ?_
        refine zeGR rfl rfl zS00 rfl rfl ?_
        refine zeP rfl rfl ?_
        refine zeP rfl rfl ?_
        refine zeCV rfl rfl rfl rfl (shM bb1) rfl (xc_blocksOf3 (m := m) (b := 1) (t := t.toNatClampNeg) bb1 t4 (hK.1 _ t4)) (by omega) ?_
        dsimp only [Option.toList, List.cons_append, List.nil_append]
        refine zeP rfl rfl ?_
        refine zeGR rfl rfl zS00 rfl rfl ?_
        refine zeP rfl rfl ?_
        refine zeKn (c := 0) rfl rfl rfl ?_
        refine zeCV rfl rfl rfl rfl (shM bb1) rfl (xc_blocksOf0 (m := m) (b := 1) (t := t.toNatClampNeg) bb1 t4 (hK.1 _ t4)) (by omega) ?_
        dsimp only [Option.toList, List.cons_append, List.nil_append]
        refine zeP rfl rfl ?_
        refine zeP rfl rfl ?_
        refine zeGR rfl rfl zS00 rfl rfl ?_
        refine zeP rfl rfl ?_
        refine zeKn (c := 1) rfl rfl rfl ?_
        refine zeCV rfl rfl rfl rfl (shM bb1) rfl (xc_blocksOf1 (m := m) (b := 1) (t := t.toNatClampNeg) bb1 t4 (hK.1 _ t4)) (by omega) ?_
        dsimp only [Option.toList, List.cons_append, List.nil_append]
        refine zeP rfl rfl ?_
        exact zeRe rfl rfl rfl rfl (by simp only [e_touches, h1, h2, h3, cond_true, cond_false] <;> rfl) (by simp only [e_touches, h1, h2, h3, cond_true, cond_false] <;> rfl)
      · refine zeKn (c := 2) rfl rfl rfl ?_
        refine zeP rfl rfl ?_
        refine zeP rfl rfl ?_
        refine zeP rfl rfl ?_
        refine zeGR rfl rfl zS00 rfl rfl ?_
        refine zeP rfl rfl ?_
        refine zeP rfl rfl ?_
        refine zeCV rfl rfl rfl rfl (shM bb1) rfl (xc_blocksOf2 (m := m) (b := 1) (t := t.toNatClampNeg) bb1 t4 (hK.1 _ t4)) (by omega) ?_
        dsimp only [Option.toList, List.cons_append, List.nil_append]
        refine zeP rfl rfl ?_
        refine zeGR rfl rfl zS00 rfl rfl ?_
        refine zeP rfl rfl ?_
        refine zeKn (c := 0) rfl rfl rfl ?_
        refine zeCV rfl rfl rfl rfl (shM bb1) rfl (xc_blocksOf0 (m := m) (b := 1) (t := t.toNatClampNeg) bb1 t4 (hK.1 _ t4)) (by omega) ?_
        dsimp only [Option.toList, List.cons_append, List.nil_append]
        refine zeP rfl rfl ?_
        refine zeP rfl rfl ?_
        refine zeGR rfl rfl zS00 rfl rfl ?_
        refine zeP rfl rfl ?_
        refine zeKn (c := 1) rfl rfl rfl ?_
        refine zeCV rfl rfl rfl rfl (shM bb1) rfl (xc_blocksOf1 (m := m) (b := 1) (t := t.toNatClampNeg) bb1 t4 (hK.1 _ t4)) (by omega) ?_
        dsimp only [Option.toList, List.cons_append, List.nil_append]
        refine zeP rfl rfl ?_
        exact zeRe rfl rfl rfl rfl (by simp only [e_touches, h1, h2, h3, cond_true, cond_false] <;> rfl) (by simp only [e_touches, h1, h2, h3, cond_true, cond_false] <;> rfl)
