noncomputable def e_poke (m : Nat → Nat → Int32) (w : Int32) (v : Int32) : (Int32 ⊕ Nat) × (Nat → Nat → Int32) := (bif wOK w then (bif zc1 .lt v then ((.inr 2), m) else (bif zc2 .lt v (Int32.ofNat 10000) then ((.inl ((m ((1 + 1)) ((w.toNatClampNeg))))), (x_reachX ((zm2 m 131 8 (Int32.ofNat 0))) 1 ((w.toNatClampNeg)) v).2) else ((.inr 2), m))) else ((.inr 0), m))
theorem ec_poke {σ : Nat → Nat × (Nat → Int32)} {yy : (Nat → Nat → Int64) × Bool × Nat × Nat} {m : Nat → Nat → Int32} {w : Int32} {v : Int32} (hC : CG m 1) : zF σ 4 1619 [.ref 0, .int w, .int v] (zS1, m, yy) (xo (e_poke m w v).1) (zS1, (e_poke m w v).2, (xy yy (e_poke m w v).1)) := by
  intro d hd
  obtain ⟨d, rfl⟩ : ∃ k, d = k + 1 := ⟨d - 1, by omega⟩
  show zEv σ (d + 1) 1619 0 [some (.ref 0), some (.int w), some (.int v), none] [] _ _ _
  refine zeP rfl rfl ?_
  refine zeGR rfl rfl zS00 rfl rfl ?_
  refine zeGR rfl rfl (shM bb1) rfl rfl ?_
  refine zeP rfl rfl ?_
  cases h1 : wOK w with
  | false =>
    exact zeThX rfl rfl rfl rfl rfl rfl (xn_1639 (m := m) (x := w) h1) (by omega) rfl rfl (by simp only [e_poke, h1, cond_true, cond_false] <;> rfl) (by simp only [e_poke, h1, cond_true, cond_false] <;> rfl)
  | true =>
    have c1 := xk_1639 (x := w) h1
    refine zeCF rfl rfl rfl rfl rfl rfl (xo_1639 (m := m) (x := w) h1) (by omega) ?_
    dsimp only [Option.toList, List.cons_append, List.nil_append]
    refine zeAL (k := (w.toNatClampNeg)) rfl rfl (shW bb1) rfl (by omega) ?_
    refine zeP rfl rfl ?_
    refine zeP rfl rfl ?_
    refine zeB1 rfl rfl (fun h2 => ?_) (fun h2 => ?_)
    · exact zeThr rfl rfl rfl rfl rfl rfl (by simp only [e_poke, h1, h2, cond_true, cond_false] <;> rfl) (by simp only [e_poke, h1, h2, cond_true, cond_false] <;> rfl)
    · refine zeP rfl rfl ?_
      refine zeKn (c := 10000) rfl rfl rfl ?_
      refine zeB2 rfl rfl (fun h3 => ?_) (fun h3 => ?_)
      · refine zeP rfl rfl ?_
        refine zeGR rfl rfl zS00 rfl rfl ?_
        refine zeCV rfl rfl rfl rfl zS131 rfl (xc_forget (m := m)) (by omega) ?_
        dsimp only [Option.toList, List.cons_append, List.nil_append]
        refine zeP rfl rfl ?_
        refine zeGR rfl rfl zS00 rfl rfl ?_
        refine zeK (v := -1) rfl rfl rfl ?_
        refine zeKn (c := w.toNatClampNeg) rfl rfl c1.1 ?_
        refine zeP rfl rfl ?_
        refine zeCV rfl rfl rfl rfl (shM bb1) rfl (xc_reachX (m := (zm2 m 131 8 (Int32.ofNat 0))) (b := 1) (w := (w.toNatClampNeg)) (v := v) bb1 (hC.far (by omega)) c1.2) (by omega) ?_
        dsimp only [Option.toList, List.cons_append, List.nil_append]
        refine zeP rfl rfl ?_
        refine zeP rfl rfl ?_
        exact zeRe rfl rfl rfl rfl (by simp only [e_poke, h1, h2, h3, cond_true, cond_false] <;> rfl) (by simp only [e_poke, h1, h2, h3, cond_true, cond_false] <;> rfl)
      · exact zeThr rfl rfl rfl rfl rfl rfl (by simp only [e_poke, h1, h2, h3, cond_true, cond_false] <;> rfl) (by simp only [e_poke, h1, h2, h3, cond_true, cond_false] <;> rfl)
