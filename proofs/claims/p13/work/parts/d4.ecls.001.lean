noncomputable def e_rivals (m : Nat → Nat → Int32) (t : Int32) (u : Int32) : (Int32 ⊕ Nat) := (bif sOK m t then (bif sOK m u then (bif zc2 .ne (Int32.ofNat (t.toNatClampNeg)) (Int32.ofNat (u.toNatClampNeg)) then (.inl ((((x_blocksOf3 m 1 (t.toNatClampNeg)) &&& ((x_blocksOf3 m 1 (u.toNatClampNeg)) ||| (x_blocksOf2 m 1 (u.toNatClampNeg)))) ||| ((x_blocksOf3 m 1 (u.toNatClampNeg)) &&& (x_blocksOf2 m 1 (t.toNatClampNeg)))))) else (.inr 2)) else (.inr 0)) else (.inr 0))
theorem ec_rivals {σ : Nat → Nat × (Nat → Int32)} {yy : (Nat → Nat → Int64) × Bool × Nat × Nat} {m : Nat → Nat → Int32} {t : Int32} {u : Int32} (hC : CG m 1) (hK : KX m 1 P0) : zF σ 3 1627 [.ref 0, .int t, .int u] (zS1, m, yy) (xo (e_rivals m t u)) (zS1, m, (xy yy (e_rivals m t u))) := by
  intro d hd
  obtain ⟨d, rfl⟩ : ∃ k, d = k + 1 := ⟨d - 1, by omega⟩
  show zEv σ (d + 1) 1627 0 [some (.ref 0), some (.int t), some (.int u), none, none, none, none] [] _ _ _
  refine zeP rfl rfl ?_
  refine zeP rfl rfl ?_
  cases h1 : sOK m t with
  | false =>
    exact zeThX rfl rfl rfl rfl rfl rfl (xn_1638 (m := m) (x := t) h1) (by omega) rfl rfl (by simp only [e_rivals, h1, cond_true, cond_false] <;> rfl) (by simp only [e_rivals, h1, cond_true, cond_false] <;> rfl)
  | true =>
    have c1 := xk_1638 (x := t) hC h1
    refine zeCV rfl rfl rfl rfl zS00 rfl (xo_1638 (m := m) (x := t) h1 hC) (by omega) ?_
    dsimp only [Option.toList, List.cons_append, List.nil_append]
    refine zeP rfl rfl ?_
    have t4 : t.toNatClampNeg < 4 := by have := hC.c4; omega
    refine zeP rfl rfl ?_
    refine zeP rfl rfl ?_
    cases h2 : sOK m u with
    | false =>
      exact zeThX rfl rfl rfl rfl rfl rfl (xn_1638 (m := m) (x := u) h2) (by omega) rfl rfl (by simp only [e_rivals, h1, h2, cond_true, cond_false] <;> rfl) (by simp only [e_rivals, h1, h2, cond_true, cond_false] <;> rfl)
    | true =>
      have c2 := xk_1638 (x := u) hC h2
      refine zeCV rfl rfl rfl rfl zS00 rfl (xo_1638 (m := m) (x := u) h2 hC) (by omega) ?_
      dsimp only [Option.toList, List.cons_append, List.nil_append]
      refine zeP rfl rfl ?_
      have u4 : u.toNatClampNeg < 4 := by have := hC.c4; omega
      refine zeKn (c := t.toNatClampNeg) rfl rfl c1.1 ?_
      refine zeKn (c := u.toNatClampNeg) rfl rfl c2.1 ?_
      refine zeB2 rfl rfl (fun h3 => ?_) (fun h3 => ?_)
      · refine zeP rfl rfl ?_
        refine zeGR rfl rfl zS00 rfl rfl ?_
        refine zeP rfl rfl ?_
        refine zeKn (c := 3) rfl rfl rfl ?_
        refine zeCV rfl rfl rfl rfl (shM bb1) rfl (xc_blocksOf3 (m := m) (b := 1) (t := t.toNatClampNeg) bb1 t4 (hK.1 _ t4)) (by omega) ?_
        dsimp only [Option.toList, List.cons_append, List.nil_append]
        refine zeP rfl rfl ?_
        refine zeP rfl rfl ?_
        refine zeGR rfl rfl zS00 rfl rfl ?_
        refine zeP rfl rfl ?_
        refine zeKn (c := 3) rfl rfl rfl ?_
        refine zeCV rfl rfl rfl rfl (shM bb1) rfl (xc_blocksOf3 (m := m) (b := 1) (t := u.toNatClampNeg) bb1 u4 (hK.1 _ u4)) (by omega) ?_
        dsimp only [Option.toList, List.cons_append, List.nil_append]
        refine zeP rfl rfl ?_
        refine zeP rfl rfl ?_
        refine zeP rfl rfl ?_
        refine zeP rfl rfl ?_
        refine zeGR rfl rfl zS00 rfl rfl ?_
        refine zeP rfl rfl ?_
        refine zeKn (c := 2) rfl rfl rfl ?_
        refine zeCV rfl rfl rfl rfl (shM bb1) rfl (xc_blocksOf2 (m := m) (b := 1) (t := u.toNatClampNeg) bb1 u4 (hK.1 _ u4)) (by omega) ?_
        dsimp only [Option.toList, List.cons_append, List.nil_append]
        refine zeP rfl rfl ?_
        refine zeP rfl rfl ?_
        refine zeP rfl rfl ?_
        refine zeP rfl rfl ?_
        refine zeGR rfl rfl zS00 rfl rfl ?_
        refine zeP rfl rfl ?_
        refine zeKn (c := 2) rfl rfl rfl ?_
        refine zeCV rfl rfl rfl rfl (shM bb1) rfl (xc_blocksOf2 (m := m) (b := 1) (t := t.toNatClampNeg) bb1 t4 (hK.1 _ t4)) (by omega) ?_
        dsimp only [Option.toList, List.cons_append, List.nil_append]
        refine zeP rfl rfl ?_
        refine zeP rfl rfl ?_
        exact zeRe rfl rfl rfl rfl (by simp only [e_rivals, h1, h2, h3, cond_true, cond_false] <;> rfl) (by simp only [e_rivals, h1, h2, h3, cond_true, cond_false] <;> rfl)
      · exact zeThr rfl rfl rfl rfl rfl rfl (by simp only [e_rivals, h1, h2, h3, cond_true, cond_false] <;> rfl) (by simp only [e_rivals, h1, h2, h3, cond_true, cond_false] <;> rfl)
