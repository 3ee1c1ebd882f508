noncomputable def e_step (m : Nat → Nat → Int32) (t : Int32) : (Int32 ⊕ Nat) × (Nat → Nat → Int32) := (bif sOK m t then (bif zc1 .ne (x_sDone m 1 (t.toNatClampNeg)) then ((.inr 4), m) else (bif zc2 .lt (m 1 7) (Int32.ofNat 99999) then ((.inl ((x_takeStep ((zm2 m 131 8 (Int32.ofNat 0))) 1 ((t.toNatClampNeg))).1)), (x_takeStep ((zm2 m 131 8 (Int32.ofNat 0))) 1 ((t.toNatClampNeg))).2) else ((.inr 4), m))) else ((.inr 0), m))
theorem ec_step {σ : Nat → Nat × (Nat → Int32)} {yy : (Nat → Nat → Int64) × Bool × Nat × Nat} {m : Nat → Nat → Int32} {t : Int32} (hC : CG m 1) (hK : KX m 1 P0) : zF σ 6 1615 [.ref 0, .int t] (zS1, m, yy) (xo (e_step m t).1) (zS1, (e_step m t).2, (xy yy (e_step m t).1)) := by
  intro d hd
  obtain ⟨d, rfl⟩ : ∃ k, d = k + 1 := ⟨d - 1, by omega⟩
  show zEv σ (d + 1) 1615 0 [some (.ref 0), some (.int t), none] [] _ _ _
  refine zeP rfl rfl ?_
  refine zeP rfl rfl ?_
  cases h1 : sOK m t with
  | false =>
    exact zeThX rfl rfl rfl rfl rfl rfl (xn_1638 (m := m) (x := t) h1) (by omega) rfl rfl (by simp only [e_step, h1, cond_true, cond_false] <;> rfl) (by simp only [e_step, h1, cond_true, cond_false] <;> rfl)
  | true =>
    have c1 := xk_1638 (x := t) hC h1
    refine zeCV rfl rfl rfl rfl zS00 rfl (xo_1638 (m := m) (x := t) h1 hC) (by omega) ?_
    dsimp only [Option.toList, List.cons_append, List.nil_append]
    refine zeP rfl rfl ?_
    have t4 : t.toNatClampNeg < 4 := by have := hC.c4; omega
    refine zeP rfl rfl ?_
    refine zeCV rfl rfl rfl rfl (shS bb1 (by omega)) rfl (xc_sDone (m := m) (b := 1) (t := t.toNatClampNeg) bb1 t4) (by omega) ?_
    dsimp only [Option.toList, List.cons_append, List.nil_append]
    refine zeB1 rfl rfl (fun h2 => ?_) (fun h2 => ?_)
    · exact zeThr rfl rfl rfl rfl rfl rfl (by simp only [e_step, h1, h2, cond_true, cond_false] <;> rfl) (by simp only [e_step, h1, h2, cond_true, cond_false] <;> rfl)
    · refine zeP rfl rfl ?_
      refine zeGR rfl rfl zS00 rfl rfl ?_
      refine zeGI rfl rfl (shM bb1) rfl rfl ?_
      refine zeKn (c := 99999) rfl rfl rfl ?_
      refine zeB2 rfl rfl (fun h3 => ?_) (fun h3 => ?_)
      · refine zeP rfl rfl ?_
        refine zeGR rfl rfl zS00 rfl rfl ?_
        refine zeCV rfl rfl rfl rfl zS131 rfl (xc_forget (m := m)) (by omega) ?_
        dsimp only [Option.toList, List.cons_append, List.nil_append]
        refine zeP rfl rfl ?_
        refine zeGR rfl rfl zS00 rfl rfl ?_
        refine zeKn (c := t.toNatClampNeg) rfl rfl c1.1 ?_
        refine zeCV rfl rfl rfl rfl (shM bb1) rfl ((xc_takeStep (m := (zm2 m 131 8 (Int32.ofNat 0))) (b := 1) (t := (t.toNatClampNeg)) bb1 (hC.far (by omega)) ((hK.run t4 (c1ne0 (by assumption))).far (by omega)) t4).1) (by omega) ?_
        dsimp only [Option.toList, List.cons_append, List.nil_append]
        exact zeRe rfl rfl rfl rfl (by simp only [e_step, h1, h2, h3, cond_true, cond_false] <;> rfl) (by simp only [e_step, h1, h2, h3, cond_true, cond_false] <;> rfl)
      · exact zeThr rfl rfl rfl rfl rfl rfl (by simp only [e_step, h1, h2, h3, cond_true, cond_false] <;> rfl) (by simp only [e_step, h1, h2, h3, cond_true, cond_false] <;> rfl)
