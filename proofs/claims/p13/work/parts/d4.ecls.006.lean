noncomputable def xl_goTurnL (n0 : Nat) : Nat → Nat → (Nat → Nat → Int32) → Int32 × (Nat → Nat → Int32)
  | 0, k, m => ((Int32.ofNat k), m)
  | n + 1, k, m => (bif zc2 .ge (m 1 7) (Int32.ofNat 99999) then ((Int32.ofNat k), m) else (bif zc2 .ne (x_nextByTurn m 1) (-1) then (xl_goTurnL n0 n ((k + 1)) ((x_takeStep m 1 (((x_nextByTurn m 1).toNatClampNeg))).2)) else ((Int32.ofNat k), m)))
theorem xw_goTurnL {σ : Nat → Nat × (Nat → Int32)} {yy : (Nat → Nat → Int64) × Bool × Nat × Nat} {n0 : Nat} {d : Nat} (hd : 6 ≤ d + 1) (hn0 : n0 ≤ 100) : ∀ (n : Nat) (k : Nat) (x4 : Option Value) (m : Nat → Nat → Int32), k + n = n0 → CG m 1 → KX m 1 P0 → zEv σ (d + 1) 1618 9 [some (.ref 0), some (.int (Int32.ofNat n0)), some (.int (Int32.ofNat 0)), some (.int (Int32.ofNat k)), x4] [] (zS1, m, yy) (.inl (some (.int (xl_goTurnL n0 n k m).1))) (zS1, ((xl_goTurnL n0 n k m).2), yy) := by
  intro n
  induction n with
  | zero =>
    intro k x4 m hk hC hK
    refine zeP rfl rfl ?_
    refine zeP rfl rfl ?_
    refine zeT2 rfl rfl (zcge (by omega) (by omega) (by omega)) ?_
    refine zeP rfl rfl ?_
    exact zeRe rfl rfl rfl rfl (by rfl) (by rfl)
  | succ n ih =>
    intro k x4 m hk hC hK
    refine zeP rfl rfl ?_
    refine zeP rfl rfl ?_
    refine zeF2 rfl rfl (zcge_f (by omega) (by omega) (by omega)) ?_
    refine zeP rfl rfl ?_
    refine zeGR rfl rfl zS00 rfl rfl ?_
    refine zeGI rfl rfl (shM bb1) rfl rfl ?_
    refine zeKn (c := 99999) rfl rfl rfl ?_
    refine zeB2 rfl rfl (fun h1 => ?_) (fun h1 => ?_)
    · refine zeP rfl rfl ?_
      exact zeRe rfl rfl rfl rfl (by simp only [xl_goTurnL, h1, cond_true, cond_false] <;> rfl) (by simp only [xl_goTurnL, h1, cond_true, cond_false] <;> rfl)
    · refine zeP rfl rfl ?_
      refine zeT1 rfl rfl (show zc1 .eq (Int32.ofNat 0) = true by decide) ?_
      refine zeP rfl rfl ?_
      refine zeGR rfl rfl zS00 rfl rfl ?_
      refine zeCV rfl rfl rfl rfl (shM bb1) rfl (xc_nextByTurn (m := m) (b := 1) bb1 hC hK.2.1) (by omega) ?_
      dsimp only [Option.toList, List.cons_append, List.nil_append]
      refine zeP rfl rfl ?_
      refine zeP rfl rfl ?_
      refine zeK (v := -1) rfl rfl rfl ?_
      refine zeB2 rfl rfl (fun h2 => ?_) (fun h2 => ?_)
      · have cn : (x_nextByTurn m 1) = Int32.ofNat (x_nextByTurn m 1).toNatClampNeg ∧ (x_nextByTurn m 1).toNatClampNeg < 4 ∧ x_sDone m 1 (x_nextByTurn m 1).toNatClampNeg = 0 := nt_ok hC (ne1_of (by assumption))
        refine zeP rfl rfl ?_
        refine zeGR rfl rfl zS00 rfl rfl ?_
        refine zeKn (c := (x_nextByTurn m 1).toNatClampNeg) rfl rfl cn.1 ?_
        refine zeCV rfl rfl rfl rfl (shM bb1) rfl ((xc_takeStep (m := m) (b := 1) (t := ((x_nextByTurn m 1).toNatClampNeg)) bb1 hC (hK.run cn.2.1 cn.2.2) cn.2.1).1) (by omega) ?_
        dsimp only [Option.toList, List.cons_append, List.nil_append]
        refine zeP rfl rfl ?_
        refine zeInc rfl rfl ?_
        refine zeP rfl rfl ?_
        simp only [xl_goTurnL, h1, h2, cond_true, cond_false]
        exact ih ((k + 1)) (some (.int (x_nextByTurn m 1)))  ((x_takeStep m 1 (((x_nextByTurn m 1).toNatClampNeg))).2) (by omega) (takeStep_kc bb1 hC (hK.run cn.2.1 cn.2.2) cn.2.1).2 (takeStep_kc bb1 hC (hK.run cn.2.1 cn.2.2) cn.2.1).1
      · refine zeP rfl rfl ?_
        refine zeP rfl rfl ?_
        exact zeRe rfl rfl rfl rfl (by simp only [xl_goTurnL, h1, h2, cond_true, cond_false] <;> rfl) (by simp only [xl_goTurnL, h1, h2, cond_true, cond_false] <;> rfl)
