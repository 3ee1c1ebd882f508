noncomputable def xl_taXL (x : Int32) (n0 : Nat) : Nat → Nat → (Nat → Nat → Int32) → Int32 × (Nat → Nat → Int32)
  | 0, k, m => (bif zc1 .eq (x_mDoneX m 43) then ((-1), m) else ((Int32.ofNat n0), m))
  | n + 1, k, m => (bif zc1 .eq (x_mDoneX m 43) then (bif zc2 .eq (x_nextByTurn m 43) (-1) then ((-1), m) else (bif zc2 .lt (m 43 7) (Int32.ofNat 99999) then (xl_taXL x n0 n ((k + 1)) ((x_takeStep m 43 (((x_nextByTurn m 43).toNatClampNeg))).2)) else ((-1), m))) else ((Int32.ofNat k), m))
theorem xw_taXL {σ : Nat → Nat × (Nat → Int32)} {yy : (Nat → Nat → Int64) × Bool × Nat × Nat} {x : Int32} {n0 : Nat} {d : Nat} (hd : 6 ≤ d + 1) (hn0 : n0 ≤ 400) : ∀ (n : Nat) (k : Nat) (x5 : Option Value) (m : Nat → Nat → Int32), k + n = n0 → CG m 43 → KX m 43 P0 → zEv σ (d + 1) 1625 30 [some (.ref 0), some (.int (-1)), some (.int x), some (.int (Int32.ofNat n0)), some (.int (Int32.ofNat k)), x5] [] (zS1, m, yy) (.inl (some (.int (xl_taXL x n0 n k m).1))) (zS1, ((xl_taXL x n0 n k m).2), yy) := by
  intro n
  induction n with
  | zero =>
    intro k x5 m hk hC2 hK2
    refine zeP rfl rfl ?_
    refine zeP rfl rfl ?_
    refine zeT2 rfl rfl (zcge (by omega) (by omega) (by omega)) ?_
    refine zeP rfl rfl ?_
    refine zeGR rfl rfl zS00 rfl rfl ?_
    refine zeP rfl rfl ?_
    refine zeCV rfl rfl rfl rfl (shM bb43) rfl (xc_mDoneX (m := m) (b := 43) bb43 hC2 hK2.2.1) (by omega) ?_
    dsimp only [Option.toList, List.cons_append, List.nil_append]
    refine zeB1 rfl rfl (fun h1 => ?_) (fun h1 => ?_)
    · refine zeK (v := -1) rfl rfl rfl ?_
      exact zeRe rfl rfl rfl rfl (by simp only [xl_taXL, h1, cond_true, cond_false] <;> rfl) (by simp only [xl_taXL, h1, cond_true, cond_false] <;> rfl)
    · refine zeP rfl rfl ?_
      refine zeP rfl rfl ?_
      exact zeRe rfl rfl rfl rfl (by simp only [xl_taXL, h1, cond_true, cond_false] <;> rfl) (by simp only [xl_taXL, h1, cond_true, cond_false] <;> rfl)
  | succ n ih =>
    intro k x5 m hk hC2 hK2
    refine zeP rfl rfl ?_
    refine zeP rfl rfl ?_
    refine zeF2 rfl rfl (zcge_f (by omega) (by omega) (by omega)) ?_
    refine zeP rfl rfl ?_
    refine zeGR rfl rfl zS00 rfl rfl ?_
    refine zeP rfl rfl ?_
    refine zeCV rfl rfl rfl rfl (shM bb43) rfl (xc_mDoneX (m := m) (b := 43) bb43 hC2 hK2.2.1) (by omega) ?_
    dsimp only [Option.toList, List.cons_append, List.nil_append]
    refine zeB1 rfl rfl (fun h1 => ?_) (fun h1 => ?_)
    · refine zeP rfl rfl ?_
      refine zeGR rfl rfl zS00 rfl rfl ?_
      refine zeCV rfl rfl rfl rfl (shM bb43) rfl (xc_nextByTurn (m := m) (b := 43) bb43 hC2 hK2.2.1) (by omega) ?_
      dsimp only [Option.toList, List.cons_append, List.nil_append]
      refine zeP rfl rfl ?_
      refine zeP rfl rfl ?_
      refine zeK (v := -1) rfl rfl rfl ?_
      refine zeB2 rfl rfl (fun h2 => ?_) (fun h2 => ?_)
      · refine zeK (v := -1) rfl rfl rfl ?_
        exact zeRe rfl rfl rfl rfl (by simp only [xl_taXL, h1, h2, cond_true, cond_false] <;> rfl) (by simp only [xl_taXL, h1, h2, cond_true, cond_false] <;> rfl)
      · refine zeP rfl rfl ?_
        refine zeGR rfl rfl zS00 rfl rfl ?_
        refine zeGI rfl rfl (shM bb43) rfl rfl ?_
        refine zeKn (c := 99999) rfl rfl rfl ?_
        refine zeB2 rfl rfl (fun h3 => ?_) (fun h3 => ?_)
        · have cn : (x_nextByTurn m 43) = Int32.ofNat (x_nextByTurn m 43).toNatClampNeg ∧ (x_nextByTurn m 43).toNatClampNeg < 4 ∧ x_sDone m 43 (x_nextByTurn m 43).toNatClampNeg = 0 := nt_ok hC2 (ne1_of2 (by assumption))
          refine zeP rfl rfl ?_
          refine zeGR rfl rfl zS00 rfl rfl ?_
          refine zeKn (c := (x_nextByTurn m 43).toNatClampNeg) rfl rfl cn.1 ?_
          refine zeCV rfl rfl rfl rfl (shM bb43) rfl ((xc_takeStep (m := m) (b := 43) (t := ((x_nextByTurn m 43).toNatClampNeg)) bb43 hC2 (hK2.run cn.2.1 cn.2.2) cn.2.1).1) (by omega) ?_
          dsimp only [Option.toList, List.cons_append, List.nil_append]
          refine zeP rfl rfl ?_
          refine zeInc rfl rfl ?_
          refine zeP rfl rfl ?_
          simp only [xl_taXL, h1, h2, h3, cond_true, cond_false]
          exact ih ((k + 1)) (some (.int (x_nextByTurn m 43)))  ((x_takeStep m 43 (((x_nextByTurn m 43).toNatClampNeg))).2) (by omega) (takeStep_kc bb43 hC2 (hK2.run cn.2.1 cn.2.2) cn.2.1).2 (takeStep_kc bb43 hC2 (hK2.run cn.2.1 cn.2.2) cn.2.1).1
        · refine zeK (v := -1) rfl rfl rfl ?_
          exact zeRe rfl rfl rfl rfl (by simp only [xl_taXL, h1, h2, h3, cond_true, cond_false] <;> rfl) (by simp only [xl_taXL, h1, h2, h3, cond_true, cond_false] <;> rfl)
    · refine zeP rfl rfl ?_
      exact zeRe rfl rfl rfl rfl (by simp only [xl_taXL, h1, cond_true, cond_false] <;> rfl) (by simp only [xl_taXL, h1, cond_true, cond_false] <;> rfl)
