noncomputable def e_taX (m : Nat → Nat → Int32) (x : Int32) (q : Int32) : Int32 × (Nat → Nat → Int32) := (bif zc1 .ge q then ((xl_taXL x ((q.toNatClampNeg)) ((q.toNatClampNeg)) 0 ((zm2 ((x_copyFrom m 43 1)) ((43 + 3)) 4 x))).1, (xl_taXL x ((q.toNatClampNeg)) ((q.toNatClampNeg)) 0 ((zm2 ((x_copyFrom m 43 1)) ((43 + 3)) 4 x))).2) else ((-1), m))
theorem ec_taX {σ : Nat → Nat × (Nat → Int32)} {yy : (Nat → Nat → Int64) × Bool × Nat × Nat} {m : Nat → Nat → Int32} {x : Int32} {q : Int32} (hC : CG m 1) (hK : KX m 1 P0) (hC2 : CG m 43) (hK2 : KX m 43 P0) (hq : q.toInt ≤ 400) : zF σ 6 1625 [.ref 0, .int (-1), .int x, .int q] (zS1, m, yy) (.inl (some (.int (e_taX m x q).1))) (zS1, (e_taX m x q).2, yy) := by
  intro d hd
  obtain ⟨d, rfl⟩ : ∃ k, d = k + 1 := ⟨d - 1, by omega⟩
  show zEv σ (d + 1) 1625 0 [some (.ref 0), some (.int (-1)), some (.int x), some (.int q), none, none] [] _ _ _
  refine zeP rfl rfl ?_
  refine zeB1 rfl rfl (fun h1 => ?_) (fun h1 => ?_)
  · have cq : q = Int32.ofNat q.toNatClampNeg ∧ q.toNatClampNeg ≤ 400 := (ge0_of (by assumption) hq)
    refine zeP rfl rfl ?_
    refine zeGR rfl rfl zS00 rfl rfl ?_
    refine zeP rfl rfl ?_
    refine zeGR rfl rfl zS00 rfl rfl ?_
    refine zeCV rfl rfl rfl rfl (shM bb43) rfl (xc_copyFrom (m := m) (b := 43) (c := 1) bb43 bb1 (Or.inr (by omega)) hC.c hC.c4 (fun t ht => (hK.1 t ht).2.2.2.1)) (by omega) ?_
    dsimp only [Option.toList, List.cons_append, List.nil_append]
    refine zeP rfl rfl ?_
    refine zeGR rfl rfl zS00 rfl rfl ?_
    refine zeGR rfl rfl (shM bb43) rfl rfl ?_
    refine zeKn (c := 4) rfl rfl rfl ?_
    refine zeP rfl rfl ?_
    refine zeAS (k := 4) rfl (shE bb43) rfl (by omega) ?_
    refine zeKn (c := 0) rfl rfl rfl ?_
    refine zeP rfl rfl ?_
    simp only [e_taX, h1, cond_true, cond_false]
    have ez := xw_taXL (x := x) (n0 := (q.toNatClampNeg)) (σ := σ) (yy := yy) (d := d) (by omega) cq.2 ((q.toNatClampNeg)) (0) (none)  ((zm2 ((x_copyFrom m 43 1)) ((43 + 3)) 4 x)) (by omega) (CG.put (CG.copy (Or.inr (by omega)) hC2 hC) _ (ncE (by omega))) (KX.put (KX.copy (Or.inr (by omega)) hK2 hK hC) _ (ndX (by omega) (by omega)))
    rw [← cq.1] at ez
    exact ez
  · refine zeK (v := -1) rfl rfl rfl ?_
    exact zeRe rfl rfl rfl rfl (by simp only [e_taX, h1, cond_true, cond_false] <;> rfl) (by simp only [e_taX, h1, cond_true, cond_false] <;> rfl)
