/-! a9.ref ab.ref ac.ref ad.ref ae.ref -/
section
noncomputable def l_feed (a : Int32) (b : Int32) (c : Int32) (e : Int32) (f : Int32) (T : Nat) : Nat → Nat → (Nat → Nat → Int32) → Int32 × (Nat → Nat → Int32)
  | 0, k, m => ((Int32.ofNat (T + 20)), (zm2 m 137 7 (Int32.ofNat (T + 20))))
  | n + 1, k, m => (l_feed a b c e f T n ((k + 1)) ((zm2 m 141 ((T + k)) (vp_nar .byte ((((m 142 ((k / 4))) >>> ((Int32.ofNat (24 - (8 * (k % 4)))) &&& 31))).toInt8.toInt32)))))
theorem w_feed {σ : Nat → Nat × (Nat → Int32)} {yy : (Nat → Nat → Int64) × Bool × Nat × Nat} {W : Nat → Int32} {a : Int32} {b : Int32} {c : Int32} {e : Int32} {f : Int32} {T : Nat} {d : Nat} (hd : 1 ≤ d + 1) (hT4 : T + 20 ≤ 400) : ∀ (n : Nat) (k : Nat) (m : Nat → Nat → Int32), k + n = 20 → m 137 7 = Int32.ofNat T → zEv σ (d + 1) 1841 60 [some (.ref 137), some (.int a), some (.int b), some (.int c), some (.int e), some (.int f), some (.int (Int32.ofNat k))] [] (zS1, zrow m 138 W, yy) (.inl (some (.int (l_feed a b c e f T n k m).1))) (zS1, zrow ((l_feed a b c e f T n k m).2) 138 W, yy) := by
  intro n
  induction n with
  | zero =>
    intro k m hk hT
    refine zeP rfl rfl ?_
    refine zeKn (c := 20) rfl rfl rfl ?_
    refine zeT2 rfl rfl (zcge (by omega) (by omega) (by omega)) ?_
    refine zeP rfl rfl ?_
    refine zeP rfl rfl ?_
    refine zeFI rfl rfl rfl rfl ?_
    rw [hT]
    refine zeKn (c := 20) rfl rfl rfl ?_
    refine zeAdd rfl ?_
    refine zeFP rfl rfl rfl ?_
    refine zeP rfl rfl ?_
    refine zeFI rfl rfl rfl rfl ?_
    rw [zm2_a]
    exact zeRe rfl rfl rfl rfl (by rfl) (by rfl)
  | succ n ih =>
    intro k m hk hT
    refine zeP rfl rfl ?_
    refine zeKn (c := 20) rfl rfl rfl ?_
    refine zeF2 rfl rfl (zcge_f (by omega) (by omega) (by omega)) ?_
    refine zeP rfl rfl ?_
    refine zeGR rfl rfl zS137 rfl rfl ?_
    refine zeP rfl rfl ?_
    refine zeFI rfl rfl rfl rfl ?_
    rw [hT]
    refine zeP rfl rfl ?_
    refine zeAdd rfl ?_
    refine zeP rfl rfl ?_
    refine zeGR rfl rfl zS137 rfl rfl ?_
    refine zeP rfl rfl ?_
    refine zeKn (c := 4) rfl rfl rfl ?_
    refine zeDiv rfl (by decide) ?_
    rw [zdiv4 (by omega)]
    refine zeQL (a := 142) (k := (k / 4)) rfl rfl (by decide) rfl rfl (by omega) ?_
    refine zeKn (c := 24) rfl rfl rfl ?_
    refine zeKn (c := 8) rfl rfl rfl ?_
    refine zeP rfl rfl ?_
    refine zeKn (c := 4) rfl rfl rfl ?_
    refine zeRem rfl (by decide) ?_
    rw [zrem4 (by omega)]
    refine zeMul rfl ?_
    refine zeSub rfl (by omega) ?_
    refine zeP rfl rfl ?_
    refine zeP rfl rfl ?_
    refine zeQBS (a := 141) (k := (T + k)) rfl (by decide) rfl rfl (by omega) ?_
    refine zeInc rfl rfl ?_
    refine zeP rfl rfl ?_
    simp only [l_feed, cond_true, cond_false]
    exact ih ((k + 1))  ((zm2 m 141 ((T + k)) (vp_nar .byte ((((m 142 ((k / 4))) >>> ((Int32.ofNat (24 - (8 * (k % 4)))) &&& 31))).toInt8.toInt32)))) (by omega) (by rw [zm2_i _ _ (by decide)]; exact hT)
theorem tle_t {a b : Nat} (ha : a ≤ 100000) (hb : b ≤ 100000) (h : zc2 .le (Int32.ofNat a) (Int32.ofNat b) = true) : a ≤ b := by
  have h1 := of_decide_eq_true h
  rw [Int32.le_iff_toInt_le, zoN (by omega), zoN (by omega)] at h1
  omega
noncomputable def q_feed (m : Nat → Nat → Int32) (a : Int32) (b : Int32) (c : Int32) (e : Int32) (f : Int32) (T : Nat) : Int32 × (Nat → Nat → Int32) := (bif zc2 .le (Int32.ofNat (T + 20)) (Int32.ofNat 400) then (l_feed a b c e f T 20 0 ((zm2 ((zm2 ((zm2 ((zm2 ((zm2 ((zm2 m 137 0 (Int32.ofNat 0))) 142 0 a)) 142 1 b)) 142 2 c)) 142 3 e)) 142 4 f))) else ((-1), (zm2 m 137 0 (Int32.ofNat 0))))
theorem p_feed {σ : Nat → Nat × (Nat → Int32)} {yy : (Nat → Nat → Int64) × Bool × Nat × Nat} {m : Nat → Nat → Int32} {W : Nat → Int32} {a : Int32} {b : Int32} {c : Int32} {e : Int32} {f : Int32} {T : Nat} {d : Nat} (hd : 1 ≤ d + 1) (hT : m 137 7 = Int32.ofNat T) (hT2 : T ≤ 400) : zEv σ (d + 1) 1841 0 [some (.ref 137), some (.int a), some (.int b), some (.int c), some (.int e), some (.int f), none] [] (zS1, zrow m 138 W, yy) (.inl (some (.int (q_feed m a b c e f T).1))) (zS1, zrow ((q_feed m a b c e f T).2) 138 W, yy) := by
  refine zeP rfl rfl ?_
  refine zeKn (c := 0) rfl rfl rfl ?_
  refine zeFP rfl rfl rfl ?_
  refine zeP rfl rfl ?_
  refine zeFI rfl rfl rfl rfl ?_
  rw [(show zm2 m 137 0 (Int32.ofNat 0) 137 7 = Int32.ofNat T by rw [zm2_k _ _ (by decide)]; exact hT)]
  refine zeKn (c := 20) rfl rfl rfl ?_
  refine zeAdd rfl ?_
  refine zeKn (c := 400) rfl rfl rfl ?_
  refine zeB2 rfl rfl (fun h1 => ?_) (fun h1 => ?_)
  · refine zeP rfl rfl ?_
    refine zeGR rfl rfl zS137 rfl rfl ?_
    refine zeKn (c := 0) rfl rfl rfl ?_
    refine zeP rfl rfl ?_
    refine zeQS (a := 142) (k := 0) rfl (by decide) rfl rfl (by omega) ?_
    refine zeP rfl rfl ?_
    refine zeGR rfl rfl zS137 rfl rfl ?_
    refine zeKn (c := 1) rfl rfl rfl ?_
    refine zeP rfl rfl ?_
    refine zeQS (a := 142) (k := 1) rfl (by decide) rfl rfl (by omega) ?_
    refine zeP rfl rfl ?_
    refine zeGR rfl rfl zS137 rfl rfl ?_
    refine zeKn (c := 2) rfl rfl rfl ?_
    refine zeP rfl rfl ?_
    refine zeQS (a := 142) (k := 2) rfl (by decide) rfl rfl (by omega) ?_
    refine zeP rfl rfl ?_
    refine zeGR rfl rfl zS137 rfl rfl ?_
    refine zeKn (c := 3) rfl rfl rfl ?_
    refine zeP rfl rfl ?_
    refine zeQS (a := 142) (k := 3) rfl (by decide) rfl rfl (by omega) ?_
    refine zeP rfl rfl ?_
    refine zeGR rfl rfl zS137 rfl rfl ?_
    refine zeKn (c := 4) rfl rfl rfl ?_
    refine zeP rfl rfl ?_
    refine zeQS (a := 142) (k := 4) rfl (by decide) rfl rfl (by omega) ?_
    refine zeKn (c := 0) rfl rfl rfl ?_
    refine zeP rfl rfl ?_
    simp only [q_feed, h1, cond_true, cond_false]
    exact w_feed (a := a) (b := b) (c := c) (e := e) (f := f) (T := T) (W := W) (by omega) (by have := tle_t (by omega) (by omega) h1; omega) 20 (0)  ((zm2 ((zm2 ((zm2 ((zm2 ((zm2 ((zm2 m 137 0 (Int32.ofNat 0))) 142 0 a)) 142 1 b)) 142 2 c)) 142 3 e)) 142 4 f)) (by omega) (by rw [zm2_i _ _ (by decide), zm2_i _ _ (by decide), zm2_i _ _ (by decide), zm2_i _ _ (by decide), zm2_i _ _ (by decide), zm2_k _ _ (by decide)]; exact hT)
  · refine zeK (v := -1) rfl rfl rfl ?_
    exact zeRe rfl rfl rfl rfl (by simp only [q_feed, h1, cond_true, cond_false] <;> rfl) (by simp only [q_feed, h1, cond_true, cond_false] <;> rfl)
theorem c_feed {σ : Nat → Nat × (Nat → Int32)} {yy : (Nat → Nat → Int64) × Bool × Nat × Nat} {m : Nat → Nat → Int32} {W : Nat → Int32} {a : Int32} {b : Int32} {c : Int32} {e : Int32} {f : Int32} {T : Nat} (hT : m 137 7 = Int32.ofNat T) (hT2 : T ≤ 400) : zF σ 1 1841 [.ref 137, .int a, .int b, .int c, .int e, .int f] (zS1, zrow m 138 W, yy) (.inl (some (.int (q_feed m a b c e f T).1))) (zS1, zrow ((q_feed m a b c e f T).2) 138 W, yy) := by
  intro d hd
  obtain ⟨d, rfl⟩ : ∃ k, d = k + 1 := ⟨d - 1, by omega⟩
  exact p_feed hd hT hT2
/-- readText at the machine's memory -/
theorem c_readTextM {σ : Nat → Nat × (Nat → Int32)} {yy : (Nat → Nat → Int64) × Bool × Nat × Nat} {m : Nat → Nat → Int32} {W : Nat → Int32} {b : Nat} (hG : PG m) (h8 : m 137 8 = Int32.ofNat 0) (h10 : m 137 10 = Int32.ofNat b) (hW : WG W) : zF σ 8 1861 [.ref 137] (zS1, zrow m 138 W, yy) (.inl (some (.int (q_readText m W 0).1))) (zS1, zrow (TP m (q_readText m W 0).2.2.1 (q_readText m W 0).2.2.2) 138 (q_readText m W 0).2.1, yy) := by
  have h := c_readText (σ := σ) (yy := yy) (m := m) (W := W) (p := 0) (b := b) hG (Nat.zero_le _) hW
  rw [TP_self h8 h10] at h
  exact h
/-- the memory as the reading of a text begins -/
noncomputable def mM (m : Nat → Nat → Int32) (W : Nat → Int32) : Nat → Nat → Int32 := (zrow (zm2 (zm2 (zm2 (zm2 m 137 0 (Int32.ofNat 0)) 137 9 (zm2 m 137 0 (Int32.ofNat 0) 137 7)) 137 7 (Int32.ofNat 0)) 137 8 (Int32.ofNat 0)) 140 (crow W (zm2 (zm2 (zm2 (zm2 m 137 0 (Int32.ofNat 0)) 137 9 (zm2 m 137 0 (Int32.ofNat 0) 137 7)) 137 7 (Int32.ofNat 0)) 137 8 (Int32.ofNat 0) 140)))
theorem mM_9 {m : Nat → Nat → Int32} {W : Nat → Int32} {T : Nat} (hT : m 137 7 = Int32.ofNat T) : mM m W 137 9 = Int32.ofNat T := hT
theorem mM_G {m : Nat → Nat → Int32} {W : Nat → Int32} {T : Nat} (hT : m 137 7 = Int32.ofNat T) (h : T ≤ 400) : PG (mM m W) ∧ pe (mM m W) = T := by
  have e : pe (mM m W) = T := by
    unfold pe
    rw [mM_9 hT]
    exact Int32.toNatClampNeg_ofNat_of_lt (by omega)
  refine ⟨⟨?_, by omega⟩, e⟩
  rw [e]
  exact hT
noncomputable def q_machine38 (m : Nat → Nat → Int32) (W : Nat → Int32) (is : Int32) : Int32 × (Nat → Int32) × (Nat → Nat → Int32) := (bif zc1 .eq is then (bif zc1 .ne is then (bif zc2 .ne (W 10) (Int32.ofNat 12) then ((((upd W 10 ((W 10) + (Int32.ofNat 1)))) 10), (upd W 10 ((W 10) + (Int32.ofNat 1))), (zm2 m 137 11 (m 137 10))) else ((Int32.ofNat 0), (crow (((q_thr1 ((zm2 m 137 11 (m 137 10))) 2).2) 140) W), (q_thr1 ((zm2 m 137 11 (m 137 10))) 2).2)) else ((Int32.ofNat 0), (crow (((q_thr1 ((zm2 m 137 11 (m 137 10))) 1).2) 140) W), (q_thr1 ((zm2 m 137 11 (m 137 10))) 1).2)) else (bif zc1 .ne is then (bif zc2 .ne (W 10) (Int32.ofNat 12) then ((((upd W 10 ((W 10) + (Int32.ofNat 1)))) 10), (upd W 10 ((W 10) + (Int32.ofNat 1))), (zm2 m 137 11 (-1))) else ((Int32.ofNat 0), (crow (((q_thr1 ((zm2 m 137 11 (-1))) 2).2) 140) W), (q_thr1 ((zm2 m 137 11 (-1))) 2).2)) else ((Int32.ofNat 0), (crow (((q_thr1 ((zm2 m 137 11 (-1))) 1).2) 140) W), (q_thr1 ((zm2 m 137 11 (-1))) 1).2)))
theorem p_machine38 {σ : Nat → Nat × (Nat → Int32)} {yy : (Nat → Nat → Int64) × Bool × Nat × Nat} {m : Nat → Nat → Int32} {W : Nat → Int32} {is : Int32} {d : Nat} (hd : 2 ≤ d + 1) : zEv σ (d + 1) 1862 38 [some (.ref 137), none] [.int is] (zS1, zrow m 138 W, yy) (.inl (some (.int (q_machine38 m W is).1))) (zS1, zrow ((q_machine38 m W is).2.2) 138 ((q_machine38 m W is).2.1), yy) := by
  refine zeP rfl rfl ?_
  refine zeP rfl rfl ?_
  refine zeP rfl rfl ?_
  refine zeB1 rfl rfl (fun h1 => ?_) (fun h1 => ?_)
  · refine zeP rfl rfl ?_
    refine zeFI rfl rfl rfl rfl ?_
    refine zeFP rfl rfl rfl ?_
    refine zeP rfl rfl ?_
    refine zeP rfl rfl ?_
    refine zeB1 rfl rfl (fun h2 => ?_) (fun h2 => ?_)
    · refine zeKn (c := 0) rfl rfl rfl ?_
      refine zeKn (c := 1) rfl rfl rfl ?_
      refine zeCF rfl rfl rfl rfl rfl rfl (c_thr0 (m := (zm2 m 137 11 (m 137 10))) (W := W) (c := 1) ) (by omega) ?_
      dsimp only [Option.toList, List.cons_append, List.nil_append]
      refine zeF1 rfl rfl (show zc1 .ne (Int32.ofNat 0) = false by decide) ?_
      refine zeP rfl rfl ?_
      refine zeP rfl rfl ?_
      refine zeGR rfl rfl zS137 rfl rfl ?_
      refine zeKn (c := 10) rfl rfl rfl ?_
      refine zeWL (k := 10) rfl (by omega) ?_
      refine zeKn (c := 12) rfl rfl rfl ?_
      refine zeB2 rfl rfl (fun h3 => ?_) (fun h3 => ?_)
      · refine zeKn (c := 0) rfl rfl rfl ?_
        refine zeKn (c := 2) rfl rfl rfl ?_
        refine zeCF rfl rfl rfl rfl rfl rfl (c_thr0 (m := (zm2 m 137 11 (m 137 10))) (W := W) (c := 2) ) (by omega) ?_
        dsimp only [Option.toList, List.cons_append, List.nil_append]
        refine zeT1 rfl rfl (show zc1 .eq (Int32.ofNat 0) = true by decide) ?_
        refine zeP rfl rfl ?_
        refine zeGR rfl rfl zS137 rfl rfl ?_
        refine zeKn (c := 10) rfl rfl rfl ?_
        refine zeP rfl rfl ?_
        refine zeWL (k := 10) rfl (by omega) ?_
        refine zeKn (c := 1) rfl rfl rfl ?_
        refine zeP rfl rfl ?_
        refine zeWS (k := 10) rfl (by omega) ?_
        refine zeP rfl rfl ?_
        refine zeGR rfl rfl zS137 rfl rfl ?_
        refine zeKn (c := 10) rfl rfl rfl ?_
        refine zeWL (k := 10) rfl (by omega) ?_
        exact zeRe rfl rfl rfl rfl (by simp only [q_machine38, h1, h2, h3, cond_true, cond_false] <;> rfl) (by simp only [q_machine38, h1, h2, h3, cond_true, cond_false] <;> rfl)
      · refine zeKn (c := 1) rfl rfl rfl ?_
        refine zeP rfl rfl ?_
        refine zeKn (c := 2) rfl rfl rfl ?_
        refine zeCF rfl rfl rfl rfl rfl rfl (c_thr1 (m := (zm2 m 137 11 (m 137 10))) (W := W) (c := 2) ) (by omega) ?_
        dsimp only [Option.toList, List.cons_append, List.nil_append]
        refine zeF1 rfl rfl (show zc1 .eq (Int32.ofNat 1) = false by decide) ?_
        refine zeP rfl rfl ?_
        refine zeGR rfl rfl zS137 rfl rfl ?_
        refine zeP rfl rfl ?_
        refine zeGR rfl rfl zS137 rfl rfl ?_
        refine zeCF rfl rfl rfl rfl rfl rfl (c_cpB (m := (q_thr1 ((zm2 m 137 11 (m 137 10))) 2).2) (W := W) (b := 140) (by decide) rfl rfl) (by omega) ?_
        dsimp only [Option.toList, List.cons_append, List.nil_append]
        refine zeKn (c := 0) rfl rfl rfl ?_
        exact zeRe rfl rfl rfl rfl (by simp only [q_machine38, h1, h2, h3, cond_true, cond_false] <;> rfl) (by simp only [q_machine38, h1, h2, h3, cond_true, cond_false] <;> rfl)
    · refine zeKn (c := 1) rfl rfl rfl ?_
      refine zeP rfl rfl ?_
      refine zeKn (c := 1) rfl rfl rfl ?_
      refine zeCF rfl rfl rfl rfl rfl rfl (c_thr1 (m := (zm2 m 137 11 (m 137 10))) (W := W) (c := 1) ) (by omega) ?_
      dsimp only [Option.toList, List.cons_append, List.nil_append]
      refine zeT1 rfl rfl (show zc1 .ne (Int32.ofNat 1) = true by decide) ?_
      refine zeP rfl rfl ?_
      refine zeGR rfl rfl zS137 rfl rfl ?_
      refine zeP rfl rfl ?_
      refine zeGR rfl rfl zS137 rfl rfl ?_
      refine zeCF rfl rfl rfl rfl rfl rfl (c_cpB (m := (q_thr1 ((zm2 m 137 11 (m 137 10))) 1).2) (W := W) (b := 140) (by decide) rfl rfl) (by omega) ?_
      dsimp only [Option.toList, List.cons_append, List.nil_append]
      refine zeKn (c := 0) rfl rfl rfl ?_
      exact zeRe rfl rfl rfl rfl (by simp only [q_machine38, h1, h2, cond_true, cond_false] <;> rfl) (by simp only [q_machine38, h1, h2, cond_true, cond_false] <;> rfl)
  · refine zeK (v := -1) rfl rfl rfl ?_
    refine zeP rfl rfl ?_
    refine zeFP rfl rfl rfl ?_
    refine zeP rfl rfl ?_
    refine zeP rfl rfl ?_
    refine zeB1 rfl rfl (fun h4 => ?_) (fun h4 => ?_)
    · refine zeKn (c := 0) rfl rfl rfl ?_
      refine zeKn (c := 1) rfl rfl rfl ?_
      refine zeCF rfl rfl rfl rfl rfl rfl (c_thr0 (m := (zm2 m 137 11 (-1))) (W := W) (c := 1) ) (by omega) ?_
      dsimp only [Option.toList, List.cons_append, List.nil_append]
      refine zeF1 rfl rfl (show zc1 .ne (Int32.ofNat 0) = false by decide) ?_
      refine zeP rfl rfl ?_
      refine zeP rfl rfl ?_
      refine zeGR rfl rfl zS137 rfl rfl ?_
      refine zeKn (c := 10) rfl rfl rfl ?_
      refine zeWL (k := 10) rfl (by omega) ?_
      refine zeKn (c := 12) rfl rfl rfl ?_
      refine zeB2 rfl rfl (fun h5 => ?_) (fun h5 => ?_)
      · refine zeKn (c := 0) rfl rfl rfl ?_
        refine zeKn (c := 2) rfl rfl rfl ?_
        refine zeCF rfl rfl rfl rfl rfl rfl (c_thr0 (m := (zm2 m 137 11 (-1))) (W := W) (c := 2) ) (by omega) ?_
        dsimp only [Option.toList, List.cons_append, List.nil_append]
        refine zeT1 rfl rfl (show zc1 .eq (Int32.ofNat 0) = true by decide) ?_
        refine zeP rfl rfl ?_
        refine zeGR rfl rfl zS137 rfl rfl ?_
        refine zeKn (c := 10) rfl rfl rfl ?_
        refine zeP rfl rfl ?_
        refine zeWL (k := 10) rfl (by omega) ?_
        refine zeKn (c := 1) rfl rfl rfl ?_
        refine zeP rfl rfl ?_
        refine zeWS (k := 10) rfl (by omega) ?_
        refine zeP rfl rfl ?_
        refine zeGR rfl rfl zS137 rfl rfl ?_
        refine zeKn (c := 10) rfl rfl rfl ?_
        refine zeWL (k := 10) rfl (by omega) ?_
        exact zeRe rfl rfl rfl rfl (by simp only [q_machine38, h1, h4, h5, cond_true, cond_false] <;> rfl) (by simp only [q_machine38, h1, h4, h5, cond_true, cond_false] <;> rfl)
      · refine zeKn (c := 1) rfl rfl rfl ?_
        refine zeP rfl rfl ?_
        refine zeKn (c := 2) rfl rfl rfl ?_
        refine zeCF rfl rfl rfl rfl rfl rfl (c_thr1 (m := (zm2 m 137 11 (-1))) (W := W) (c := 2) ) (by omega) ?_
        dsimp only [Option.toList, List.cons_append, List.nil_append]
        refine zeF1 rfl rfl (show zc1 .eq (Int32.ofNat 1) = false by decide) ?_
        refine zeP rfl rfl ?_
        refine zeGR rfl rfl zS137 rfl rfl ?_
        refine zeP rfl rfl ?_
        refine zeGR rfl rfl zS137 rfl rfl ?_
        refine zeCF rfl rfl rfl rfl rfl rfl (c_cpB (m := (q_thr1 ((zm2 m 137 11 (-1))) 2).2) (W := W) (b := 140) (by decide) rfl rfl) (by omega) ?_
        dsimp only [Option.toList, List.cons_append, List.nil_append]
        refine zeKn (c := 0) rfl rfl rfl ?_
        exact zeRe rfl rfl rfl rfl (by simp only [q_machine38, h1, h4, h5, cond_true, cond_false] <;> rfl) (by simp only [q_machine38, h1, h4, h5, cond_true, cond_false] <;> rfl)
    · refine zeKn (c := 1) rfl rfl rfl ?_
      refine zeP rfl rfl ?_
      refine zeKn (c := 1) rfl rfl rfl ?_
      refine zeCF rfl rfl rfl rfl rfl rfl (c_thr1 (m := (zm2 m 137 11 (-1))) (W := W) (c := 1) ) (by omega) ?_
      dsimp only [Option.toList, List.cons_append, List.nil_append]
      refine zeT1 rfl rfl (show zc1 .ne (Int32.ofNat 1) = true by decide) ?_
      refine zeP rfl rfl ?_
      refine zeGR rfl rfl zS137 rfl rfl ?_
      refine zeP rfl rfl ?_
      refine zeGR rfl rfl zS137 rfl rfl ?_
      refine zeCF rfl rfl rfl rfl rfl rfl (c_cpB (m := (q_thr1 ((zm2 m 137 11 (-1))) 1).2) (W := W) (b := 140) (by decide) rfl rfl) (by omega) ?_
      dsimp only [Option.toList, List.cons_append, List.nil_append]
      refine zeKn (c := 0) rfl rfl rfl ?_
      exact zeRe rfl rfl rfl rfl (by simp only [q_machine38, h1, h4, cond_true, cond_false] <;> rfl) (by simp only [q_machine38, h1, h4, cond_true, cond_false] <;> rfl)
noncomputable def q_machine (m : Nat → Nat → Int32) (W : Nat → Int32) : Int32 × (Nat → Int32) × (Nat → Nat → Int32) := (q_machine38 (TP (mM m W) (q_readText (mM m W) W 0).2.2.1 (q_readText (mM m W) W 0).2.2.2) (q_readText (mM m W) W 0).2.1 (q_readText (mM m W) W 0).1)
theorem p_machine {σ : Nat → Nat × (Nat → Int32)} {yy : (Nat → Nat → Int64) × Bool × Nat × Nat} {m : Nat → Nat → Int32} {W : Nat → Int32} {T : Nat} {b : Nat} {d : Nat} (hd : 9 ≤ d + 1) (hT : m 137 7 = Int32.ofNat T) (hT2 : T ≤ 400) (h10 : m 137 10 = Int32.ofNat b) (hW : WG W) : zEv σ (d + 1) 1862 0 [some (.ref 137), none] [] (zS1, zrow m 138 W, yy) (.inl (some (.int (q_machine m W).1))) (zS1, zrow ((q_machine m W).2.2) 138 ((q_machine m W).2.1), yy) := by
  have hG2 := (mM_G (W := W) hT hT2).1
  have h82 : mM m W 137 8 = Int32.ofNat 0 := rfl
  have h102 : mM m W 137 10 = Int32.ofNat b := h10
  refine zeP rfl rfl ?_
  refine zeKn (c := 0) rfl rfl rfl ?_
  refine zeFP rfl rfl rfl ?_
  refine zeP rfl rfl ?_
  refine zeP rfl rfl ?_
  refine zeFI rfl rfl rfl rfl ?_
  refine zeFP rfl rfl rfl ?_
  refine zeP rfl rfl ?_
  refine zeKn (c := 0) rfl rfl rfl ?_
  refine zeFP rfl rfl rfl ?_
  refine zeP rfl rfl ?_
  refine zeKn (c := 0) rfl rfl rfl ?_
  refine zeFP rfl rfl rfl ?_
  refine zeP rfl rfl ?_
  refine zeGR rfl rfl zS137 rfl rfl ?_
  refine zeP rfl rfl ?_
  refine zeGR rfl rfl zS137 rfl rfl ?_
  refine zeCF rfl rfl rfl rfl rfl rfl (c_cpF (m := (zm2 ((zm2 ((zm2 ((zm2 m 137 0 (Int32.ofNat 0))) 137 9 (((zm2 m 137 0 (Int32.ofNat 0))) 137 7))) 137 7 (Int32.ofNat 0))) 137 8 (Int32.ofNat 0))) (W := W) (b := 140) (by decide) rfl) (by omega) ?_
  dsimp only [Option.toList, List.cons_append, List.nil_append]
  refine zeP rfl rfl ?_
  refine zeCF rfl rfl rfl rfl rfl rfl (c_readTextM (m := (zrow ((zm2 ((zm2 ((zm2 ((zm2 m 137 0 (Int32.ofNat 0))) 137 9 (((zm2 m 137 0 (Int32.ofNat 0))) 137 7))) 137 7 (Int32.ofNat 0))) 137 8 (Int32.ofNat 0))) 140 (crow W (((zm2 ((zm2 ((zm2 ((zm2 m 137 0 (Int32.ofNat 0))) 137 9 (((zm2 m 137 0 (Int32.ofNat 0))) 137 7))) 137 7 (Int32.ofNat 0))) 137 8 (Int32.ofNat 0))) 140)))) (W := W) (b := b) hG2 h82 h102 hW) (by omega) ?_
  dsimp only [Option.toList, List.cons_append, List.nil_append]
  simp only [q_machine, cond_true, cond_false]
  exact p_machine38 (is := (q_readText ((zrow ((zm2 ((zm2 ((zm2 ((zm2 m 137 0 (Int32.ofNat 0))) 137 9 (((zm2 m 137 0 (Int32.ofNat 0))) 137 7))) 137 7 (Int32.ofNat 0))) 137 8 (Int32.ofNat 0))) 140 (crow W (((zm2 ((zm2 ((zm2 ((zm2 m 137 0 (Int32.ofNat 0))) 137 9 (((zm2 m 137 0 (Int32.ofNat 0))) 137 7))) 137 7 (Int32.ofNat 0))) 137 8 (Int32.ofNat 0))) 140)))) W 0).1) (W := (q_readText ((zrow ((zm2 ((zm2 ((zm2 ((zm2 m 137 0 (Int32.ofNat 0))) 137 9 (((zm2 m 137 0 (Int32.ofNat 0))) 137 7))) 137 7 (Int32.ofNat 0))) 137 8 (Int32.ofNat 0))) 140 (crow W (((zm2 ((zm2 ((zm2 ((zm2 m 137 0 (Int32.ofNat 0))) 137 9 (((zm2 m 137 0 (Int32.ofNat 0))) 137 7))) 137 7 (Int32.ofNat 0))) 137 8 (Int32.ofNat 0))) 140)))) W 0).2.1) (m := (TP ((zrow ((zm2 ((zm2 ((zm2 ((zm2 m 137 0 (Int32.ofNat 0))) 137 9 (((zm2 m 137 0 (Int32.ofNat 0))) 137 7))) 137 7 (Int32.ofNat 0))) 137 8 (Int32.ofNat 0))) 140 (crow W (((zm2 ((zm2 ((zm2 ((zm2 m 137 0 (Int32.ofNat 0))) 137 9 (((zm2 m 137 0 (Int32.ofNat 0))) 137 7))) 137 7 (Int32.ofNat 0))) 137 8 (Int32.ofNat 0))) 140)))) (q_readText ((zrow ((zm2 ((zm2 ((zm2 ((zm2 m 137 0 (Int32.ofNat 0))) 137 9 (((zm2 m 137 0 (Int32.ofNat 0))) 137 7))) 137 7 (Int32.ofNat 0))) 137 8 (Int32.ofNat 0))) 140 (crow W (((zm2 ((zm2 ((zm2 ((zm2 m 137 0 (Int32.ofNat 0))) 137 9 (((zm2 m 137 0 (Int32.ofNat 0))) 137 7))) 137 7 (Int32.ofNat 0))) 137 8 (Int32.ofNat 0))) 140)))) W 0).2.2.1 (q_readText ((zrow ((zm2 ((zm2 ((zm2 ((zm2 m 137 0 (Int32.ofNat 0))) 137 9 (((zm2 m 137 0 (Int32.ofNat 0))) 137 7))) 137 7 (Int32.ofNat 0))) 137 8 (Int32.ofNat 0))) 140 (crow W (((zm2 ((zm2 ((zm2 ((zm2 m 137 0 (Int32.ofNat 0))) 137 9 (((zm2 m 137 0 (Int32.ofNat 0))) 137 7))) 137 7 (Int32.ofNat 0))) 137 8 (Int32.ofNat 0))) 140)))) W 0).2.2.2)) (by omega) 
theorem c_machine {σ : Nat → Nat × (Nat → Int32)} {yy : (Nat → Nat → Int64) × Bool × Nat × Nat} {m : Nat → Nat → Int32} {W : Nat → Int32} {T : Nat} {b : Nat} (hT : m 137 7 = Int32.ofNat T) (hT2 : T ≤ 400) (h10 : m 137 10 = Int32.ofNat b) (hW : WG W) : zF σ 9 1862 [.ref 137] (zS1, zrow m 138 W, yy) (.inl (some (.int (q_machine m W).1))) (zS1, zrow ((q_machine m W).2.2) 138 ((q_machine m W).2.1), yy) := by
  intro d hd
  obtain ⟨d, rfl⟩ : ∃ k, d = k + 1 := ⟨d - 1, by omega⟩
  exact p_machine hd hT hT2 h10 hW
end
section
noncomputable def q_putsWhole (m : Nat → Nat → Int32) (b : Nat) (t : Nat) (O : Nat) : (Nat → Nat → Int32) := (bif zc2 .ne (Int32.ofNat O) (Int32.ofNat 20) then (zm2 ((zm2 ((zm2 m 143 (((b + 41) + (2 * O))) ((Int32.ofNat t)))) 143 ((((b + 41) + (2 * O)) + 1)) ((((zm2 m 143 (((b + 41) + (2 * O))) ((Int32.ofNat t)))) 143 (((b + 32) + t)))))) 143 ((b + 40)) ((Int32.ofNat (O + 1)))) else m)
theorem p_putsWhole {σ : Nat → Nat × (Nat → Int32)} {yy : (Nat → Nat → Int64) × Bool × Nat × Nat} {m : Nat → Nat → Int32} {W : Nat → Int32} {b : Nat} {t : Nat} {O : Nat} {d : Nat} (hd : 1 ≤ d + 1) (hO : m 143 (b + 40) = Int32.ofNat O) (hO2 : O ≤ 20) (hb : b + 81 ≤ 891) (ht : t < 4) : zEv σ (d + 1) 1903 0 [some (.ref 137), some (.int (Int32.ofNat b)), some (.int (Int32.ofNat t)), none] [] (zS1, zrow m 138 W, yy) (.inl none) (zS1, zrow ((q_putsWhole m b t O)) 138 W, yy) := by
  refine zeP rfl rfl ?_
  refine zeGR rfl rfl zS137 rfl rfl ?_
  refine zeP rfl rfl ?_
  refine zeKn (c := 40) rfl rfl rfl ?_
  refine zeAdd rfl ?_
  refine zeQL (a := 143) (k := (b + 40)) rfl rfl (by decide) rfl rfl (by omega) ?_
  rw [hO]
  refine zeP rfl rfl ?_
  refine zeP rfl rfl ?_
  refine zeKn (c := 20) rfl rfl rfl ?_
  refine zeB2 rfl rfl (fun h1 => ?_) (fun h1 => ?_)
  · refine zeP rfl rfl ?_
    refine zeGR rfl rfl zS137 rfl rfl ?_
    refine zeP rfl rfl ?_
    refine zeKn (c := 41) rfl rfl rfl ?_
    refine zeAdd rfl ?_
    refine zeKn (c := 2) rfl rfl rfl ?_
    refine zeP rfl rfl ?_
    refine zeMul rfl ?_
    refine zeAdd rfl ?_
    refine zeP rfl rfl ?_
    refine zeQS (a := 143) (k := ((b + 41) + (2 * O))) rfl (by decide) rfl rfl (by have := tne_t h1; omega) ?_
    refine zeP rfl rfl ?_
    refine zeGR rfl rfl zS137 rfl rfl ?_
    refine zeP rfl rfl ?_
    refine zeKn (c := 41) rfl rfl rfl ?_
    refine zeAdd rfl ?_
    refine zeKn (c := 2) rfl rfl rfl ?_
    refine zeP rfl rfl ?_
    refine zeMul rfl ?_
    refine zeAdd rfl ?_
    refine zeKn (c := 1) rfl rfl rfl ?_
    refine zeAdd rfl ?_
    refine zeP rfl rfl ?_
    refine zeGR rfl rfl zS137 rfl rfl ?_
    refine zeP rfl rfl ?_
    refine zeKn (c := 32) rfl rfl rfl ?_
    refine zeAdd rfl ?_
    refine zeP rfl rfl ?_
    refine zeAdd rfl ?_
    refine zeQL (a := 143) (k := ((b + 32) + t)) rfl rfl (by decide) rfl rfl (by omega) ?_
    refine zeQS (a := 143) (k := (((b + 41) + (2 * O)) + 1)) rfl (by decide) rfl rfl (by have := tne_t h1; omega) ?_
    refine zeP rfl rfl ?_
    refine zeGR rfl rfl zS137 rfl rfl ?_
    refine zeP rfl rfl ?_
    refine zeKn (c := 40) rfl rfl rfl ?_
    refine zeAdd rfl ?_
    refine zeP rfl rfl ?_
    refine zeQL (a := 143) (k := (b + 40)) rfl rfl (by decide) rfl rfl (by omega) ?_
    rw [(show (zm2 ((zm2 m 143 (((b + 41) + (2 * O))) ((Int32.ofNat t)))) 143 ((((b + 41) + (2 * O)) + 1)) ((((zm2 m 143 (((b + 41) + (2 * O))) ((Int32.ofNat t)))) 143 (((b + 32) + t))))) 143 (b + 40) = Int32.ofNat O by rw [zm2_k _ _ (by omega), zm2_k _ _ (by omega)]; exact hO)]
    refine zeKn (c := 1) rfl rfl rfl ?_
    refine zeAdd rfl ?_
    refine zeQS (a := 143) (k := (b + 40)) rfl (by decide) rfl rfl (by omega) ?_
    exact zeRe rfl rfl rfl rfl (by simp only [q_putsWhole, h1, cond_true, cond_false] <;> rfl) (by simp only [q_putsWhole, h1, cond_true, cond_false] <;> rfl)
  · exact zeRe rfl rfl rfl rfl (by simp only [q_putsWhole, h1, cond_true, cond_false] <;> rfl) (by simp only [q_putsWhole, h1, cond_true, cond_false] <;> rfl)
theorem c_putsWhole {σ : Nat → Nat × (Nat → Int32)} {yy : (Nat → Nat → Int64) × Bool × Nat × Nat} {m : Nat → Nat → Int32} {W : Nat → Int32} {b : Nat} {t : Nat} {O : Nat} (hO : m 143 (b + 40) = Int32.ofNat O) (hO2 : O ≤ 20) (hb : b + 81 ≤ 891) (ht : t < 4) : zF σ 1 1903 [.ref 137, .int (Int32.ofNat b), .int (Int32.ofNat t)] (zS1, zrow m 138 W, yy) (.inl none) (zS1, zrow ((q_putsWhole m b t O)) 138 W, yy) := by
  intro d hd
  obtain ⟨d, rfl⟩ : ∃ k, d = k + 1 := ⟨d - 1, by omega⟩
  exact p_putsWhole hd hO hO2 hb ht
noncomputable def q_wdo0 (m : Nat → Nat → Int32) (b : Nat) (t : Nat) (n : Nat) (w : Nat) : Int32 × (Nat → Nat → Int32) := (bif zc1 .eq (m 143 (((b + 0) + w))) then ((Int32.ofNat 1), (zm2 m 143 (((b + 0) + w)) ((Int32.ofNat 1)))) else ((Int32.ofNat 0), m))
theorem p_wdo0 {σ : Nat → Nat × (Nat → Int32)} {yy : (Nat → Nat → Int64) × Bool × Nat × Nat} {m : Nat → Nat → Int32} {W : Nat → Int32} {b : Nat} {t : Nat} {n : Nat} {w : Nat} {d : Nat} (hd : 1 ≤ d + 1) (hb : b + 81 ≤ 891) (ht : t < 4) (hw : W (16 + n) = Int32.ofNat w) (hw2 : w ≤ 31) (hn : n ≤ 3) : zEv σ (d + 1) 1902 0 [some (.ref 137), some (.int (Int32.ofNat b)), some (.int (Int32.ofNat t)), some (.int (Int32.ofNat 0)), some (.int (Int32.ofNat n)), none] [] (zS1, zrow m 138 W, yy) (.inl (some (.int (q_wdo0 m b t n w).1))) (zS1, zrow ((q_wdo0 m b t n w).2) 138 W, yy) := by
  refine zeP rfl rfl ?_
  refine zeKn (c := 1) rfl rfl rfl ?_
  refine zeF2 rfl rfl (show zc2 .gt (Int32.ofNat 0) (Int32.ofNat 1) = false by decide) ?_
  refine zeP rfl rfl ?_
  refine zeKn (c := 0) rfl rfl rfl ?_
  refine zeAdd rfl ?_
  refine zeP rfl rfl ?_
  refine zeGR rfl rfl zS137 rfl rfl ?_
  refine zeKn (c := 16) rfl rfl rfl ?_
  refine zeP rfl rfl ?_
  refine zeAdd rfl ?_
  refine zeWL (k := (16 + n)) rfl (by omega) ?_
  rw [hw]
  refine zeAdd rfl ?_
  refine zeP rfl rfl ?_
  refine zeP rfl rfl ?_
  refine zeP rfl rfl ?_
  refine zeP rfl rfl ?_
  refine zeP rfl rfl ?_
  refine zeGR rfl rfl zS137 rfl rfl ?_
  refine zeP rfl rfl ?_
  refine zeQL (a := 143) (k := ((b + 0) + w)) rfl rfl (by decide) rfl rfl (by omega) ?_
  refine zeB1 rfl rfl (fun h1 => ?_) (fun h1 => ?_)
  · refine zeP rfl rfl ?_
    refine zeGR rfl rfl zS137 rfl rfl ?_
    refine zeP rfl rfl ?_
    refine zeKn (c := 1) rfl rfl rfl ?_
    refine zeQS (a := 143) (k := ((b + 0) + w)) rfl (by decide) rfl rfl (by omega) ?_
    refine zeKn (c := 1) rfl rfl rfl ?_
    exact zeRe rfl rfl rfl rfl (by simp only [q_wdo0, h1, cond_true, cond_false] <;> rfl) (by simp only [q_wdo0, h1, cond_true, cond_false] <;> rfl)
  · refine zeKn (c := 0) rfl rfl rfl ?_
    exact zeRe rfl rfl rfl rfl (by simp only [q_wdo0, h1, cond_true, cond_false] <;> rfl) (by simp only [q_wdo0, h1, cond_true, cond_false] <;> rfl)
theorem c_wdo0 {σ : Nat → Nat × (Nat → Int32)} {yy : (Nat → Nat → Int64) × Bool × Nat × Nat} {m : Nat → Nat → Int32} {W : Nat → Int32} {b : Nat} {t : Nat} {n : Nat} {w : Nat} (hb : b + 81 ≤ 891) (ht : t < 4) (hw : W (16 + n) = Int32.ofNat w) (hw2 : w ≤ 31) (hn : n ≤ 3) : zF σ 1 1902 [.ref 137, .int (Int32.ofNat b), .int (Int32.ofNat t), .int (Int32.ofNat 0), .int (Int32.ofNat n)] (zS1, zrow m 138 W, yy) (.inl (some (.int (q_wdo0 m b t n w).1))) (zS1, zrow ((q_wdo0 m b t n w).2) 138 W, yy) := by
  intro d hd
  obtain ⟨d, rfl⟩ : ∃ k, d = k + 1 := ⟨d - 1, by omega⟩
  exact p_wdo0 hd hb ht hw hw2 hn
noncomputable def q_wdo1 (m : Nat → Nat → Int32) (b : Nat) (t : Nat) (n : Nat) (w : Nat) : Int32 × (Nat → Nat → Int32) := ((Int32.ofNat 1), (zm2 m 143 (((b + 0) + w)) ((Int32.ofNat 0))))
theorem p_wdo1 {σ : Nat → Nat × (Nat → Int32)} {yy : (Nat → Nat → Int64) × Bool × Nat × Nat} {m : Nat → Nat → Int32} {W : Nat → Int32} {b : Nat} {t : Nat} {n : Nat} {w : Nat} {d : Nat} (hd : 1 ≤ d + 1) (hb : b + 81 ≤ 891) (ht : t < 4) (hw : W (16 + n) = Int32.ofNat w) (hw2 : w ≤ 31) (hn : n ≤ 3) : zEv σ (d + 1) 1902 0 [some (.ref 137), some (.int (Int32.ofNat b)), some (.int (Int32.ofNat t)), some (.int (Int32.ofNat 1)), some (.int (Int32.ofNat n)), none] [] (zS1, zrow m 138 W, yy) (.inl (some (.int (q_wdo1 m b t n w).1))) (zS1, zrow ((q_wdo1 m b t n w).2) 138 W, yy) := by
  refine zeP rfl rfl ?_
  refine zeKn (c := 1) rfl rfl rfl ?_
  refine zeF2 rfl rfl (show zc2 .gt (Int32.ofNat 1) (Int32.ofNat 1) = false by decide) ?_
  refine zeP rfl rfl ?_
  refine zeKn (c := 0) rfl rfl rfl ?_
  refine zeAdd rfl ?_
  refine zeP rfl rfl ?_
  refine zeGR rfl rfl zS137 rfl rfl ?_
  refine zeKn (c := 16) rfl rfl rfl ?_
  refine zeP rfl rfl ?_
  refine zeAdd rfl ?_
  refine zeWL (k := (16 + n)) rfl (by omega) ?_
  rw [hw]
  refine zeAdd rfl ?_
  refine zeP rfl rfl ?_
  refine zeP rfl rfl ?_
  refine zeP rfl rfl ?_
  refine zeP rfl rfl ?_
  refine zeP rfl rfl ?_
  refine zeGR rfl rfl zS137 rfl rfl ?_
  refine zeP rfl rfl ?_
  refine zeKn (c := 0) rfl rfl rfl ?_
  refine zeQS (a := 143) (k := ((b + 0) + w)) rfl (by decide) rfl rfl (by omega) ?_
  refine zeKn (c := 1) rfl rfl rfl ?_
  exact zeRe rfl rfl rfl rfl (by rfl) (by rfl)
theorem c_wdo1 {σ : Nat → Nat × (Nat → Int32)} {yy : (Nat → Nat → Int64) × Bool × Nat × Nat} {m : Nat → Nat → Int32} {W : Nat → Int32} {b : Nat} {t : Nat} {n : Nat} {w : Nat} (hb : b + 81 ≤ 891) (ht : t < 4) (hw : W (16 + n) = Int32.ofNat w) (hw2 : w ≤ 31) (hn : n ≤ 3) : zF σ 1 1902 [.ref 137, .int (Int32.ofNat b), .int (Int32.ofNat t), .int (Int32.ofNat 1), .int (Int32.ofNat n)] (zS1, zrow m 138 W, yy) (.inl (some (.int (q_wdo1 m b t n w).1))) (zS1, zrow ((q_wdo1 m b t n w).2) 138 W, yy) := by
  intro d hd
  obtain ⟨d, rfl⟩ : ∃ k, d = k + 1 := ⟨d - 1, by omega⟩
  exact p_wdo1 hd hb ht hw hw2 hn
noncomputable def q_wdo2 (m : Nat → Nat → Int32) (b : Nat) (t : Nat) (n : Nat) : Int32 × (Nat → Nat → Int32) := ((Int32.ofNat 1), (zm2 m 143 (((b + 32) + t)) ((m 143 (((b + 0) + n))))))
theorem p_wdo2 {σ : Nat → Nat × (Nat → Int32)} {yy : (Nat → Nat → Int64) × Bool × Nat × Nat} {m : Nat → Nat → Int32} {W : Nat → Int32} {b : Nat} {t : Nat} {n : Nat} {d : Nat} (hd : 1 ≤ d + 1) (hb : b + 81 ≤ 891) (ht : t < 4) (hn : n ≤ 31) : zEv σ (d + 1) 1902 0 [some (.ref 137), some (.int (Int32.ofNat b)), some (.int (Int32.ofNat t)), some (.int (Int32.ofNat 2)), some (.int (Int32.ofNat n)), none] [] (zS1, zrow m 138 W, yy) (.inl (some (.int (q_wdo2 m b t n).1))) (zS1, zrow ((q_wdo2 m b t n).2) 138 W, yy) := by
  refine zeP rfl rfl ?_
  refine zeKn (c := 1) rfl rfl rfl ?_
  refine zeT2 rfl rfl (show zc2 .gt (Int32.ofNat 2) (Int32.ofNat 1) = true by decide) ?_
  refine zeKn (c := 0) rfl rfl rfl ?_
  refine zeP rfl rfl ?_
  refine zeP rfl rfl ?_
  refine zeP rfl rfl ?_
  refine zeP rfl rfl ?_
  refine zeGR rfl rfl zS137 rfl rfl ?_
  refine zeP rfl rfl ?_
  refine zeKn (c := 32) rfl rfl rfl ?_
  refine zeAdd rfl ?_
  refine zeP rfl rfl ?_
  refine zeAdd rfl ?_
  refine zeP rfl rfl ?_
  refine zeGR rfl rfl zS137 rfl rfl ?_
  refine zeP rfl rfl ?_
  refine zeKn (c := 0) rfl rfl rfl ?_
  refine zeAdd rfl ?_
  refine zeP rfl rfl ?_
  refine zeAdd rfl ?_
  refine zeQL (a := 143) (k := ((b + 0) + n)) rfl rfl (by decide) rfl rfl (by omega) ?_
  refine zeQS (a := 143) (k := ((b + 32) + t)) rfl (by decide) rfl rfl (by omega) ?_
  refine zeKn (c := 1) rfl rfl rfl ?_
  exact zeRe rfl rfl rfl rfl (by rfl) (by rfl)
theorem c_wdo2 {σ : Nat → Nat × (Nat → Int32)} {yy : (Nat → Nat → Int64) × Bool × Nat × Nat} {m : Nat → Nat → Int32} {W : Nat → Int32} {b : Nat} {t : Nat} {n : Nat} (hb : b + 81 ≤ 891) (ht : t < 4) (hn : n ≤ 31) : zF σ 1 1902 [.ref 137, .int (Int32.ofNat b), .int (Int32.ofNat t), .int (Int32.ofNat 2), .int (Int32.ofNat n)] (zS1, zrow m 138 W, yy) (.inl (some (.int (q_wdo2 m b t n).1))) (zS1, zrow ((q_wdo2 m b t n).2) 138 W, yy) := by
  intro d hd
  obtain ⟨d, rfl⟩ : ∃ k, d = k + 1 := ⟨d - 1, by omega⟩
  exact p_wdo2 hd hb ht hn
noncomputable def q_wdo3 (m : Nat → Nat → Int32) (b : Nat) (t : Nat) (n : Nat) : Int32 × (Nat → Nat → Int32) := ((Int32.ofNat 1), (zm2 m 143 (((b + 0) + n)) ((m 143 (((b + 32) + t))))))
theorem p_wdo3 {σ : Nat → Nat × (Nat → Int32)} {yy : (Nat → Nat → Int64) × Bool × Nat × Nat} {m : Nat → Nat → Int32} {W : Nat → Int32} {b : Nat} {t : Nat} {n : Nat} {d : Nat} (hd : 1 ≤ d + 1) (hb : b + 81 ≤ 891) (ht : t < 4) (hn : n ≤ 31) : zEv σ (d + 1) 1902 0 [some (.ref 137), some (.int (Int32.ofNat b)), some (.int (Int32.ofNat t)), some (.int (Int32.ofNat 3)), some (.int (Int32.ofNat n)), none] [] (zS1, zrow m 138 W, yy) (.inl (some (.int (q_wdo3 m b t n).1))) (zS1, zrow ((q_wdo3 m b t n).2) 138 W, yy) := by
  refine zeP rfl rfl ?_
  refine zeKn (c := 1) rfl rfl rfl ?_
  refine zeT2 rfl rfl (show zc2 .gt (Int32.ofNat 3) (Int32.ofNat 1) = true by decide) ?_
  refine zeKn (c := 0) rfl rfl rfl ?_
  refine zeP rfl rfl ?_
  refine zeP rfl rfl ?_
  refine zeP rfl rfl ?_
  refine zeP rfl rfl ?_
  refine zeGR rfl rfl zS137 rfl rfl ?_
  refine zeP rfl rfl ?_
  refine zeKn (c := 0) rfl rfl rfl ?_
  refine zeAdd rfl ?_
  refine zeP rfl rfl ?_
  refine zeAdd rfl ?_
  refine zeP rfl rfl ?_
  refine zeGR rfl rfl zS137 rfl rfl ?_
  refine zeP rfl rfl ?_
  refine zeKn (c := 32) rfl rfl rfl ?_
  refine zeAdd rfl ?_
  refine zeP rfl rfl ?_
  refine zeAdd rfl ?_
  refine zeQL (a := 143) (k := ((b + 32) + t)) rfl rfl (by decide) rfl rfl (by omega) ?_
  refine zeQS (a := 143) (k := ((b + 0) + n)) rfl (by decide) rfl rfl (by omega) ?_
  refine zeKn (c := 1) rfl rfl rfl ?_
  exact zeRe rfl rfl rfl rfl (by rfl) (by rfl)
theorem c_wdo3 {σ : Nat → Nat × (Nat → Int32)} {yy : (Nat → Nat → Int64) × Bool × Nat × Nat} {m : Nat → Nat → Int32} {W : Nat → Int32} {b : Nat} {t : Nat} {n : Nat} (hb : b + 81 ≤ 891) (ht : t < 4) (hn : n ≤ 31) : zF σ 1 1902 [.ref 137, .int (Int32.ofNat b), .int (Int32.ofNat t), .int (Int32.ofNat 3), .int (Int32.ofNat n)] (zS1, zrow m 138 W, yy) (.inl (some (.int (q_wdo3 m b t n).1))) (zS1, zrow ((q_wdo3 m b t n).2) 138 W, yy) := by
  intro d hd
  obtain ⟨d, rfl⟩ : ∃ k, d = k + 1 := ⟨d - 1, by omega⟩
  exact p_wdo3 hd hb ht hn
noncomputable def q_wdo4 (m : Nat → Nat → Int32) (b : Nat) (t : Nat) (n : Nat) : Int32 × (Nat → Nat → Int32) := ((Int32.ofNat 1), (zm2 m 143 (((b + 32) + t)) ((Int32.ofNat n))))
theorem p_wdo4 {σ : Nat → Nat × (Nat → Int32)} {yy : (Nat → Nat → Int64) × Bool × Nat × Nat} {m : Nat → Nat → Int32} {W : Nat → Int32} {b : Nat} {t : Nat} {n : Nat} {d : Nat} (hd : 1 ≤ d + 1) (hb : b + 81 ≤ 891) (ht : t < 4) : zEv σ (d + 1) 1902 0 [some (.ref 137), some (.int (Int32.ofNat b)), some (.int (Int32.ofNat t)), some (.int (Int32.ofNat 4)), some (.int (Int32.ofNat n)), none] [] (zS1, zrow m 138 W, yy) (.inl (some (.int (q_wdo4 m b t n).1))) (zS1, zrow ((q_wdo4 m b t n).2) 138 W, yy) := by
  refine zeP rfl rfl ?_
  refine zeKn (c := 1) rfl rfl rfl ?_
  refine zeT2 rfl rfl (show zc2 .gt (Int32.ofNat 4) (Int32.ofNat 1) = true by decide) ?_
  refine zeKn (c := 0) rfl rfl rfl ?_
  refine zeP rfl rfl ?_
  refine zeP rfl rfl ?_
  refine zeP rfl rfl ?_
  refine zeP rfl rfl ?_
  refine zeGR rfl rfl zS137 rfl rfl ?_
  refine zeP rfl rfl ?_
  refine zeKn (c := 32) rfl rfl rfl ?_
  refine zeAdd rfl ?_
  refine zeP rfl rfl ?_
  refine zeAdd rfl ?_
  refine zeP rfl rfl ?_
  refine zeQS (a := 143) (k := ((b + 32) + t)) rfl (by decide) rfl rfl (by omega) ?_
  refine zeKn (c := 1) rfl rfl rfl ?_
  exact zeRe rfl rfl rfl rfl (by rfl) (by rfl)
theorem c_wdo4 {σ : Nat → Nat × (Nat → Int32)} {yy : (Nat → Nat → Int64) × Bool × Nat × Nat} {m : Nat → Nat → Int32} {W : Nat → Int32} {b : Nat} {t : Nat} {n : Nat} (hb : b + 81 ≤ 891) (ht : t < 4) : zF σ 1 1902 [.ref 137, .int (Int32.ofNat b), .int (Int32.ofNat t), .int (Int32.ofNat 4), .int (Int32.ofNat n)] (zS1, zrow m 138 W, yy) (.inl (some (.int (q_wdo4 m b t n).1))) (zS1, zrow ((q_wdo4 m b t n).2) 138 W, yy) := by
  intro d hd
  obtain ⟨d, rfl⟩ : ∃ k, d = k + 1 := ⟨d - 1, by omega⟩
  exact p_wdo4 hd hb ht
noncomputable def q_wdo5 (m : Nat → Nat → Int32) (b : Nat) (t : Nat) (n : Nat) : Int32 × (Nat → Nat → Int32) := ((Int32.ofNat 1), (zm2 m 143 (((b + 32) + t)) ((((m 143 (((b + 32) + t))) + (Int32.ofNat n)) - ((m 143 (((b + 32) + t))) + (Int32.ofNat n)) / (Int32.ofNat 10000) * (Int32.ofNat 10000)))))
theorem p_wdo5 {σ : Nat → Nat × (Nat → Int32)} {yy : (Nat → Nat → Int64) × Bool × Nat × Nat} {m : Nat → Nat → Int32} {W : Nat → Int32} {b : Nat} {t : Nat} {n : Nat} {d : Nat} (hd : 1 ≤ d + 1) (hb : b + 81 ≤ 891) (ht : t < 4) : zEv σ (d + 1) 1902 0 [some (.ref 137), some (.int (Int32.ofNat b)), some (.int (Int32.ofNat t)), some (.int (Int32.ofNat 5)), some (.int (Int32.ofNat n)), none] [] (zS1, zrow m 138 W, yy) (.inl (some (.int (q_wdo5 m b t n).1))) (zS1, zrow ((q_wdo5 m b t n).2) 138 W, yy) := by
  refine zeP rfl rfl ?_
  refine zeKn (c := 1) rfl rfl rfl ?_
  refine zeT2 rfl rfl (show zc2 .gt (Int32.ofNat 5) (Int32.ofNat 1) = true by decide) ?_
  refine zeKn (c := 0) rfl rfl rfl ?_
  refine zeP rfl rfl ?_
  refine zeP rfl rfl ?_
  refine zeP rfl rfl ?_
  refine zeP rfl rfl ?_
  refine zeGR rfl rfl zS137 rfl rfl ?_
  refine zeP rfl rfl ?_
  refine zeKn (c := 32) rfl rfl rfl ?_
  refine zeAdd rfl ?_
  refine zeP rfl rfl ?_
  refine zeAdd rfl ?_
  refine zeP rfl rfl ?_
  refine zeGR rfl rfl zS137 rfl rfl ?_
  refine zeP rfl rfl ?_
  refine zeKn (c := 32) rfl rfl rfl ?_
  refine zeAdd rfl ?_
  refine zeP rfl rfl ?_
  refine zeAdd rfl ?_
  refine zeQL (a := 143) (k := ((b + 32) + t)) rfl rfl (by decide) rfl rfl (by omega) ?_
  refine zeP rfl rfl ?_
  refine zeP rfl rfl ?_
  refine zeKn (c := 10000) rfl rfl rfl ?_
  refine zeRem rfl (by decide) ?_
  refine zeQS (a := 143) (k := ((b + 32) + t)) rfl (by decide) rfl rfl (by omega) ?_
  refine zeKn (c := 1) rfl rfl rfl ?_
  exact zeRe rfl rfl rfl rfl (by rfl) (by rfl)
theorem c_wdo5 {σ : Nat → Nat × (Nat → Int32)} {yy : (Nat → Nat → Int64) × Bool × Nat × Nat} {m : Nat → Nat → Int32} {W : Nat → Int32} {b : Nat} {t : Nat} {n : Nat} (hb : b + 81 ≤ 891) (ht : t < 4) : zF σ 1 1902 [.ref 137, .int (Int32.ofNat b), .int (Int32.ofNat t), .int (Int32.ofNat 5), .int (Int32.ofNat n)] (zS1, zrow m 138 W, yy) (.inl (some (.int (q_wdo5 m b t n).1))) (zS1, zrow ((q_wdo5 m b t n).2) 138 W, yy) := by
  intro d hd
  obtain ⟨d, rfl⟩ : ∃ k, d = k + 1 := ⟨d - 1, by omega⟩
  exact p_wdo5 hd hb ht
noncomputable def q_wdo6 (b : Nat) (t : Nat) (n : Nat) : Int32 := (Int32.ofNat 1)
theorem p_wdo6 {σ : Nat → Nat × (Nat → Int32)} {yy : (Nat → Nat → Int64) × Bool × Nat × Nat} {m : Nat → Nat → Int32} {W : Nat → Int32} {b : Nat} {t : Nat} {n : Nat} {d : Nat} (hd : 1 ≤ d + 1) (hb : b + 81 ≤ 891) (ht : t < 4) : zEv σ (d + 1) 1902 0 [some (.ref 137), some (.int (Int32.ofNat b)), some (.int (Int32.ofNat t)), some (.int (Int32.ofNat 6)), some (.int (Int32.ofNat n)), none] [] (zS1, zrow m 138 W, yy) (.inl (some (.int (q_wdo6 b t n)))) (zS1, zrow m 138 W, yy) := by
  refine zeP rfl rfl ?_
  refine zeKn (c := 1) rfl rfl rfl ?_
  refine zeT2 rfl rfl (show zc2 .gt (Int32.ofNat 6) (Int32.ofNat 1) = true by decide) ?_
  refine zeKn (c := 0) rfl rfl rfl ?_
  refine zeP rfl rfl ?_
  refine zeP rfl rfl ?_
  refine zeP rfl rfl ?_
  refine zeKn (c := 1) rfl rfl rfl ?_
  exact zeRe rfl rfl rfl rfl (by rfl) (by rfl)
theorem c_wdo6 {σ : Nat → Nat × (Nat → Int32)} {yy : (Nat → Nat → Int64) × Bool × Nat × Nat} {m : Nat → Nat → Int32} {W : Nat → Int32} {b : Nat} {t : Nat} {n : Nat} (hb : b + 81 ≤ 891) (ht : t < 4) : zF σ 1 1902 [.ref 137, .int (Int32.ofNat b), .int (Int32.ofNat t), .int (Int32.ofNat 6), .int (Int32.ofNat n)] (zS1, zrow m 138 W, yy) (.inl (some (.int (q_wdo6 b t n)))) (zS1, zrow m 138 W, yy) := by
  intro d hd
  obtain ⟨d, rfl⟩ : ∃ k, d = k + 1 := ⟨d - 1, by omega⟩
  exact p_wdo6 hd hb ht
noncomputable def q_wdo7 (m : Nat → Nat → Int32) (b : Nat) (t : Nat) (n : Nat) (O : Nat) : Int32 × (Nat → Nat → Int32) := ((Int32.ofNat 1), (q_putsWhole m b t O))
theorem p_wdo7 {σ : Nat → Nat × (Nat → Int32)} {yy : (Nat → Nat → Int64) × Bool × Nat × Nat} {m : Nat → Nat → Int32} {W : Nat → Int32} {b : Nat} {t : Nat} {n : Nat} {O : Nat} {d : Nat} (hd : 2 ≤ d + 1) (hb : b + 81 ≤ 891) (ht : t < 4) (hO : m 143 (b + 40) = Int32.ofNat O) (hO2 : O ≤ 20) : zEv σ (d + 1) 1902 0 [some (.ref 137), some (.int (Int32.ofNat b)), some (.int (Int32.ofNat t)), some (.int (Int32.ofNat 7)), some (.int (Int32.ofNat n)), none] [] (zS1, zrow m 138 W, yy) (.inl (some (.int (q_wdo7 m b t n O).1))) (zS1, zrow ((q_wdo7 m b t n O).2) 138 W, yy) := by
  refine zeP rfl rfl ?_
  refine zeKn (c := 1) rfl rfl rfl ?_
  refine zeT2 rfl rfl (show zc2 .gt (Int32.ofNat 7) (Int32.ofNat 1) = true by decide) ?_
  refine zeKn (c := 0) rfl rfl rfl ?_
  refine zeP rfl rfl ?_
  refine zeP rfl rfl ?_
  refine zeP rfl rfl ?_
  refine zeP rfl rfl ?_
  refine zeP rfl rfl ?_
  refine zeP rfl rfl ?_
  refine zeCF rfl rfl rfl rfl rfl rfl (c_putsWhole (m := m) (W := W) (b := b) (t := t) (O := O) hO hO2 hb ht) (by omega) ?_
  dsimp only [Option.toList, List.cons_append, List.nil_append]
  refine zeKn (c := 1) rfl rfl rfl ?_
  exact zeRe rfl rfl rfl rfl (by rfl) (by rfl)
theorem c_wdo7 {σ : Nat → Nat × (Nat → Int32)} {yy : (Nat → Nat → Int64) × Bool × Nat × Nat} {m : Nat → Nat → Int32} {W : Nat → Int32} {b : Nat} {t : Nat} {n : Nat} {O : Nat} (hb : b + 81 ≤ 891) (ht : t < 4) (hO : m 143 (b + 40) = Int32.ofNat O) (hO2 : O ≤ 20) : zF σ 2 1902 [.ref 137, .int (Int32.ofNat b), .int (Int32.ofNat t), .int (Int32.ofNat 7), .int (Int32.ofNat n)] (zS1, zrow m 138 W, yy) (.inl (some (.int (q_wdo7 m b t n O).1))) (zS1, zrow ((q_wdo7 m b t n O).2) 138 W, yy) := by
  intro d hd
  obtain ⟨d, rfl⟩ : ∃ k, d = k + 1 := ⟨d - 1, by omega⟩
  exact p_wdo7 hd hb ht hO hO2
/-- a deed done in a whole part -/
noncomputable def q_wdoDeed (m : Nat → Nat → Int32) (W : Nat → Int32) (b t K n : Nat) : Int32 × (Nat → Nat → Int32) := match K with
  | 0 => q_wdo0 m b t n (nv W (16 + n))
  | 1 => q_wdo1 m b t n (nv W (16 + n))
  | 2 => q_wdo2 m b t n
  | 3 => q_wdo3 m b t n
  | 4 => q_wdo4 m b t n
  | 5 => q_wdo5 m b t n
  | 6 => (Int32.ofNat 1, m)
  | _ => q_wdo7 m b t n (m 143 (b + 40)).toNatClampNeg
/-- a level of the search that is in order -/
noncomputable def OL (m : Nat → Nat → Int32) (b : Nat) : Prop := m 143 (b + 40) = Int32.ofNat (m 143 (b + 40)).toNatClampNeg ∧ (m 143 (b + 40)).toNatClampNeg ≤ 20
theorem c_wdoDeed {σ : Nat → Nat × (Nat → Int32)} {yy : (Nat → Nat → Int64) × Bool × Nat × Nat} {m : Nat → Nat → Int32} {W : Nat → Int32} {b t K n : Nat} (hb : b + 81 ≤ 891) (ht : t < 4) (hW : WG W) (hO : OL m b) (hK : K ≤ 7) (h1 : K ≤ 1 → n ≤ 3) (h3 : K ≤ 3 → n ≤ 31) : zF σ 2 1902 [.ref 137, .int (Int32.ofNat b), .int (Int32.ofNat t), .int (Int32.ofNat K), .int (Int32.ofNat n)] (zS1, zrow m 138 W, yy) (.inl (some (.int (q_wdoDeed m W b t K n).1))) (zS1, zrow (q_wdoDeed m W b t K n).2 138 W, yy) := by
  have hl : n ≤ 3 → W (16 + n) = Int32.ofNat (nv W (16 + n)) ∧ nv W (16 + n) ≤ 31 := fun h => ⟨(hW.1.2.2.2.2.2.2 n (by omega)).1, (hW.1.2.2.2.2.2.2 n (by omega)).2.2⟩
  match K, hK, h1, h3 with
  | 0, _, h1, _ => exact (c_wdo0 hb ht (hl (h1 (by omega))).1 (hl (h1 (by omega))).2 (h1 (by omega))).up (by omega)
  | 1, _, h1, _ => exact (c_wdo1 hb ht (hl (h1 (by omega))).1 (hl (h1 (by omega))).2 (h1 (by omega))).up (by omega)
  | 2, _, _, h3 => exact (c_wdo2 hb ht (h3 (by omega))).up (by omega)
  | 3, _, _, h3 => exact (c_wdo3 hb ht (h3 (by omega))).up (by omega)
  | 4, _, _, _ => exact (c_wdo4 hb ht).up (by omega)
  | 5, _, _, _ => exact (c_wdo5 hb ht).up (by omega)
  | 6, _, _, _ => exact (c_wdo6 (b := b) (t := t) (n := n) hb ht).up (by omega)
  | 7, _, _, _ => exact c_wdo7 hb ht hO.1 hO.2
  | k + 8, h, _, _ => exact absurd h (by omega)
noncomputable def l_asNow2 (m : Nat → Nat → Int32) (W : Nat → Int32) (b : Nat) (O : Nat) : Nat → Int32 → Nat → Int32
  | 0, is, k => is
  | n + 1, is, k => (bif zc1 .eq is then is else (bif zc2 .ne (m 143 (((b + 41) + k))) (W (96 + k)) then (l_asNow2 m W b O n ((Int32.ofNat 0)) ((k + 1))) else (l_asNow2 m W b O n ((Int32.ofNat 1)) ((k + 1)))))
theorem w_asNow2 {σ : Nat → Nat × (Nat → Int32)} {yy : (Nat → Nat → Int64) × Bool × Nat × Nat} {m : Nat → Nat → Int32} {W : Nat → Int32} {b : Nat} {O : Nat} {d : Nat} (hd : 1 ≤ d + 1) (hO : W 14 = Int32.ofNat O) (hO2 : O ≤ 20) (hb : b + 81 ≤ 891) : ∀ (n : Nat) (is : Int32) (k : Nat), k + n = 2 * O → is = 0 ∨ is = 1 → zEv σ (d + 1) 1904 73 [some (.ref 137), some (.int (Int32.ofNat b)), some (.int is), some (.int (Int32.ofNat k))] [] (zS1, zrow m 138 W, yy) (.inl (some (.int (l_asNow2 m W b O n is k)))) (zS1, zrow m 138 W, yy) := by
  intro n
  induction n with
  | zero =>
    intro is k hk his
    refine zeP rfl rfl ?_
    refine zeKn (c := 2) rfl rfl rfl ?_
    refine zeP rfl rfl ?_
    refine zeGR rfl rfl zS137 rfl rfl ?_
    refine zeKn (c := 14) rfl rfl rfl ?_
    refine zeWL (k := 14) rfl (by omega) ?_
    rw [hO]
    refine zeMul rfl ?_
    refine zeT2 rfl rfl (zcge (by omega) (by omega) (by omega)) ?_
    refine zeP rfl rfl ?_
    exact zeRe rfl rfl rfl (zretB rfl rfl his) (by rfl) (by rfl)
  | succ n ih =>
    intro is k hk his
    refine zeP rfl rfl ?_
    refine zeKn (c := 2) rfl rfl rfl ?_
    refine zeP rfl rfl ?_
    refine zeGR rfl rfl zS137 rfl rfl ?_
    refine zeKn (c := 14) rfl rfl rfl ?_
    refine zeWL (k := 14) rfl (by omega) ?_
    rw [hO]
    refine zeMul rfl ?_
    refine zeF2 rfl rfl (zcge_f (by omega) (by omega) (by omega)) ?_
    refine zeP rfl rfl ?_
    refine zeB1 rfl rfl (fun h1 => ?_) (fun h1 => ?_)
    · refine zeP rfl rfl ?_
      exact zeRe rfl rfl rfl (zretB rfl rfl his) (by simp only [l_asNow2, h1, cond_true, cond_false] <;> rfl) (by simp only [l_asNow2, h1, cond_true, cond_false] <;> rfl)
    · refine zeP rfl rfl ?_
      refine zeGR rfl rfl zS137 rfl rfl ?_
      refine zeP rfl rfl ?_
      refine zeKn (c := 41) rfl rfl rfl ?_
      refine zeAdd rfl ?_
      refine zeP rfl rfl ?_
      refine zeAdd rfl ?_
      refine zeQL (a := 143) (k := ((b + 41) + k)) rfl rfl (by decide) rfl rfl (by omega) ?_
      refine zeP rfl rfl ?_
      refine zeGR rfl rfl zS137 rfl rfl ?_
      refine zeKn (c := 96) rfl rfl rfl ?_
      refine zeP rfl rfl ?_
      refine zeAdd rfl ?_
      refine zeWL (k := (96 + k)) rfl (by omega) ?_
      refine zeB2 rfl rfl (fun h2 => ?_) (fun h2 => ?_)
      · refine zeKn (c := 0) rfl rfl rfl ?_
        refine zeP rfl rfl ?_
        refine zeInc rfl rfl ?_
        refine zeP rfl rfl ?_
        simp only [l_asNow2, h1, h2, cond_true, cond_false]
        exact ih ((Int32.ofNat 0)) ((k + 1))   (by omega) (by first | exact Or.inr rfl | exact Or.inl rfl)
      · refine zeKn (c := 1) rfl rfl rfl ?_
        refine zeP rfl rfl ?_
        refine zeP rfl rfl ?_
        refine zeInc rfl rfl ?_
        refine zeP rfl rfl ?_
        simp only [l_asNow2, h1, h2, cond_true, cond_false]
        exact ih ((Int32.ofNat 1)) ((k + 1))   (by omega) (by first | exact Or.inr rfl | exact Or.inl rfl)
noncomputable def q_asNow71 (m : Nat → Nat → Int32) (W : Nat → Int32) (b : Nat) (is : Int32) (k : Nat) (O : Nat) : Int32 := (l_asNow2 m W b O ((2 * O)) is 0)
theorem p_asNow71 {σ : Nat → Nat × (Nat → Int32)} {yy : (Nat → Nat → Int64) × Bool × Nat × Nat} {m : Nat → Nat → Int32} {W : Nat → Int32} {b : Nat} {is : Int32} {k : Nat} {O : Nat} {d : Nat} (hd : 1 ≤ d + 1) (hO : W 14 = Int32.ofNat O) (hO2 : O ≤ 20) (hb : b + 81 ≤ 891) (his : is = 0 ∨ is = 1) : zEv σ (d + 1) 1904 71 [some (.ref 137), some (.int (Int32.ofNat b)), some (.int is), some (.int (Int32.ofNat k))] [] (zS1, zrow m 138 W, yy) (.inl (some (.int (q_asNow71 m W b is k O)))) (zS1, zrow m 138 W, yy) := by
  refine zeKn (c := 0) rfl rfl rfl ?_
  refine zeP rfl rfl ?_
  simp only [q_asNow71, cond_true, cond_false]
  exact w_asNow2 (b := b) (O := O) (W := W) (m := m) (by omega) hO hO2 hb ((2 * O)) (is) (0)   (by omega) his
noncomputable def l_asNow1 (m : Nat → Nat → Int32) (W : Nat → Int32) (b : Nat) (O : Nat) : Nat → Int32 → Nat → Int32
  | 0, is, k => (q_asNow71 m W b is k O)
  | n + 1, is, k => (bif zc1 .eq is then (q_asNow71 m W b is k O) else (bif zc2 .ne (m 143 (((b + 0) + k))) (W (32 + k)) then (l_asNow1 m W b O n ((Int32.ofNat 0)) ((k + 1))) else (l_asNow1 m W b O n ((Int32.ofNat 1)) ((k + 1)))))
theorem w_asNow1 {σ : Nat → Nat × (Nat → Int32)} {yy : (Nat → Nat → Int64) × Bool × Nat × Nat} {m : Nat → Nat → Int32} {W : Nat → Int32} {b : Nat} {O : Nat} {d : Nat} (hd : 1 ≤ d + 1) (hO : W 14 = Int32.ofNat O) (hO2 : O ≤ 20) (hb : b + 81 ≤ 891) : ∀ (n : Nat) (is : Int32) (k : Nat), k + n = 32 → is = 0 ∨ is = 1 → zEv σ (d + 1) 1904 27 [some (.ref 137), some (.int (Int32.ofNat b)), some (.int is), some (.int (Int32.ofNat k))] [] (zS1, zrow m 138 W, yy) (.inl (some (.int (l_asNow1 m W b O n is k)))) (zS1, zrow m 138 W, yy) := by
  intro n
  induction n with
  | zero =>
    intro is k hk his
    refine zeP rfl rfl ?_
    refine zeKn (c := 32) rfl rfl rfl ?_
    refine zeT2 rfl rfl (zcge (by omega) (by omega) (by omega)) ?_
    simp only [l_asNow1, cond_true, cond_false]
    exact p_asNow71 (b := b) (is := is) (k := k) (O := O) (W := W) (m := m) (by omega) hO hO2 hb his
  | succ n ih =>
    intro is k hk his
    refine zeP rfl rfl ?_
    refine zeKn (c := 32) rfl rfl rfl ?_
    refine zeF2 rfl rfl (zcge_f (by omega) (by omega) (by omega)) ?_
    refine zeP rfl rfl ?_
    refine zeB1 rfl rfl (fun h1 => ?_) (fun h1 => ?_)
    · simp only [l_asNow1, h1, cond_true, cond_false]
      exact p_asNow71 (b := b) (is := is) (k := k) (O := O) (W := W) (m := m) (by omega) hO hO2 hb his
    · refine zeP rfl rfl ?_
      refine zeGR rfl rfl zS137 rfl rfl ?_
      refine zeP rfl rfl ?_
      refine zeKn (c := 0) rfl rfl rfl ?_
      refine zeAdd rfl ?_
      refine zeP rfl rfl ?_
      refine zeAdd rfl ?_
      refine zeQL (a := 143) (k := ((b + 0) + k)) rfl rfl (by decide) rfl rfl (by omega) ?_
      refine zeP rfl rfl ?_
      refine zeGR rfl rfl zS137 rfl rfl ?_
      refine zeKn (c := 32) rfl rfl rfl ?_
      refine zeP rfl rfl ?_
      refine zeAdd rfl ?_
      refine zeWL (k := (32 + k)) rfl (by omega) ?_
      refine zeB2 rfl rfl (fun h2 => ?_) (fun h2 => ?_)
      · refine zeKn (c := 0) rfl rfl rfl ?_
        refine zeP rfl rfl ?_
        refine zeInc rfl rfl ?_
        refine zeP rfl rfl ?_
        simp only [l_asNow1, h1, h2, cond_true, cond_false]
        exact ih ((Int32.ofNat 0)) ((k + 1))   (by omega) (by first | exact Or.inr rfl | exact Or.inl rfl)
      · refine zeKn (c := 1) rfl rfl rfl ?_
        refine zeP rfl rfl ?_
        refine zeP rfl rfl ?_
        refine zeInc rfl rfl ?_
        refine zeP rfl rfl ?_
        simp only [l_asNow1, h1, h2, cond_true, cond_false]
        exact ih ((Int32.ofNat 1)) ((k + 1))   (by omega) (by first | exact Or.inr rfl | exact Or.inl rfl)
noncomputable def q_isAsNow (m : Nat → Nat → Int32) (W : Nat → Int32) (b : Nat) (O : Nat) : Int32 := (bif zc2 .ne (m 143 ((b + 40))) (W 14) then (l_asNow1 m W b O 32 ((Int32.ofNat 0)) 0) else (l_asNow1 m W b O 32 ((Int32.ofNat 1)) 0))
theorem p_isAsNow {σ : Nat → Nat × (Nat → Int32)} {yy : (Nat → Nat → Int64) × Bool × Nat × Nat} {m : Nat → Nat → Int32} {W : Nat → Int32} {b : Nat} {O : Nat} {d : Nat} (hd : 1 ≤ d + 1) (hO : W 14 = Int32.ofNat O) (hO2 : O ≤ 20) (hb : b + 81 ≤ 891) : zEv σ (d + 1) 1904 0 [some (.ref 137), some (.int (Int32.ofNat b)), none, none] [] (zS1, zrow m 138 W, yy) (.inl (some (.int (q_isAsNow m W b O)))) (zS1, zrow m 138 W, yy) := by
  refine zeP rfl rfl ?_
  refine zeGR rfl rfl zS137 rfl rfl ?_
  refine zeP rfl rfl ?_
  refine zeKn (c := 40) rfl rfl rfl ?_
  refine zeAdd rfl ?_
  refine zeQL (a := 143) (k := (b + 40)) rfl rfl (by decide) rfl rfl (by omega) ?_
  refine zeP rfl rfl ?_
  refine zeGR rfl rfl zS137 rfl rfl ?_
  refine zeKn (c := 14) rfl rfl rfl ?_
  refine zeWL (k := 14) rfl (by omega) ?_
  refine zeB2 rfl rfl (fun h1 => ?_) (fun h1 => ?_)
  · refine zeKn (c := 0) rfl rfl rfl ?_
    refine zeP rfl rfl ?_
    refine zeKn (c := 0) rfl rfl rfl ?_
    refine zeP rfl rfl ?_
    simp only [q_isAsNow, h1, cond_true, cond_false]
    exact w_asNow1 (b := b) (O := O) (W := W) (m := m) (by omega) hO hO2 hb 32 ((Int32.ofNat 0)) (0)   (by omega) (by first | exact Or.inr rfl | exact Or.inl rfl)
  · refine zeKn (c := 1) rfl rfl rfl ?_
    refine zeP rfl rfl ?_
    refine zeP rfl rfl ?_
    refine zeKn (c := 0) rfl rfl rfl ?_
    refine zeP rfl rfl ?_
    simp only [q_isAsNow, h1, cond_true, cond_false]
    exact w_asNow1 (b := b) (O := O) (W := W) (m := m) (by omega) hO hO2 hb 32 ((Int32.ofNat 1)) (0)   (by omega) (by first | exact Or.inr rfl | exact Or.inl rfl)
theorem c_isAsNow {σ : Nat → Nat × (Nat → Int32)} {yy : (Nat → Nat → Int64) × Bool × Nat × Nat} {m : Nat → Nat → Int32} {W : Nat → Int32} {b : Nat} {O : Nat} (hO : W 14 = Int32.ofNat O) (hO2 : O ≤ 20) (hb : b + 81 ≤ 891) : zF σ 1 1904 [.ref 137, .int (Int32.ofNat b)] (zS1, zrow m 138 W, yy) (.inl (some (.int (q_isAsNow m W b O)))) (zS1, zrow m 138 W, yy) := by
  intro d hd
  obtain ⟨d, rfl⟩ : ∃ k, d = k + 1 := ⟨d - 1, by omega⟩
  exact p_isAsNow hd hO hO2 hb
end
section
theorem deedOf0 {W : Nat → Int32} {t p : Nat} (h : WG W) (ht : t < 4) (hp : p < 24) : q_deedOf W t p 0 = Int32.ofNat (nv W (376 + 103 * t + (55 + 2 * p))) := (h.2 t ht).2.2.2.2.2.2.2 p hp |>.1.1
theorem deedOf1 {W : Nat → Int32} {t p : Nat} (h : WG W) (ht : t < 4) (hp : p < 24) : q_deedOf W t p 1 = Int32.ofNat (nv W (376 + 103 * t + (55 + 2 * p + 1))) := (h.2 t ht).2.2.2.2.2.2.2 p hp |>.2.1.1
theorem WG.D {W : Nat → Int32} {t p : Nat} (h : WG W) (ht : t < 4) (hp : p < 24) : nv W (376 + 103 * t + (55 + 2 * p)) ≤ 7 ∧ (nv W (376 + 103 * t + (55 + 2 * p)) ≤ 1 → nv W (376 + 103 * t + (55 + 2 * p + 1)) ≤ 3) ∧ (nv W (376 + 103 * t + (55 + 2 * p)) ≤ 3 → nv W (376 + 103 * t + (55 + 2 * p + 1)) ≤ 31) := ⟨((h.2 t ht).2.2.2.2.2.2.2 p hp).1.2.2, ((h.2 t ht).2.2.2.2.2.2.2 p hp).2.2⟩
/-- beside a level's own cells of the search nothing changes -/
noncomputable def OF (b : Nat) (m m' : Nat → Nat → Int32) : Prop := (∀ i, i ≠ 143 → m' i = m i) ∧ ∀ c, (c < b ∨ b + 81 ≤ c ∨ (b + 36 ≤ c ∧ c < b + 40)) → m' 143 c = m 143 c
theorem OF.rf (b : Nat) (m : Nat → Nat → Int32) : OF b m m := ⟨fun _ _ => rfl, fun _ _ => rfl⟩
theorem OF.put {b k : Nat} (m : Nat → Nat → Int32) (x : Int32) (h : ¬ (k < b ∨ b + 81 ≤ k ∨ (b + 36 ≤ k ∧ k < b + 40))) : OF b m (zm2 m 143 k x) := ⟨fun i hi => zm2_i _ _ hi, fun c hc => zm2_k _ _ (fun e => h (e ▸ hc))⟩
theorem OF.tr {b : Nat} {m m' m'' : Nat → Nat → Int32} (h : OF b m m') (g : OF b m' m'') : OF b m m'' := ⟨fun i hi => (g.1 i hi).trans (h.1 i hi), fun c hc => (g.2 c hc).trans (h.2 c hc)⟩
theorem OF.put2 {b k : Nat} {m m' : Nat → Nat → Int32} (g : OF b m m') (x : Int32) (h : ¬ (k < b ∨ b + 81 ≤ k ∨ (b + 36 ≤ k ∧ k < b + 40))) : OF b m (zm2 m' 143 k x) := g.tr (OF.put m' x h)
theorem OL.put {m : Nat → Nat → Int32} {b k : Nat} (h : OL m b) (x : Int32) (hk : b + 40 ≠ k) : OL (zm2 m 143 k x) b := by
  unfold OL
  rw [zm2_k _ _ hk]
  exact h
theorem wdo_ok {m : Nat → Nat → Int32} {W : Nat → Int32} {b t K n : Nat} (hO : OL m b) (ht : t < 4) (hW : WG W) (hK : K ≤ 7) (h1 : K ≤ 1 → n ≤ 3) (h3 : K ≤ 3 → n ≤ 31) : OL (q_wdoDeed m W b t K n).2 b ∧ ((q_wdoDeed m W b t K n).1 = 0 ∨ (q_wdoDeed m W b t K n).1 = 1) ∧ OF b m (q_wdoDeed m W b t K n).2 := by
  have hl : n ≤ 3 → nv W (16 + n) ≤ 31 := fun h => (hW.1.2.2.2.2.2.2 n (by omega)).2.2
  match K, hK, h1, h3 with
  | 0, _, h1, _ =>
    have := hl (h1 (by omega))
    show OL (q_wdo0 m b t n (nv W (16 + n))).2 b ∧ _ ∧ OF b m (q_wdo0 m b t n (nv W (16 + n))).2
    unfold q_wdoDeed q_wdo0
    cases zc1 .eq (m 143 (b + 0 + nv W (16 + n))) with
    | true => exact ⟨hO.put _ (by omega), Or.inr rfl, OF.put _ _ (by omega)⟩
    | false => exact ⟨hO, Or.inl rfl, OF.rf _ _⟩
  | 1, _, h1, _ =>
    have := hl (h1 (by omega))
    exact ⟨hO.put _ (by omega), Or.inr rfl, OF.put _ _ (by omega)⟩
  | 2, _, _, h3 => exact ⟨hO.put _ (by omega), Or.inr rfl, OF.put _ _ (by omega)⟩
  | 3, _, _, h3 =>
    have := h3 (by omega)
    exact ⟨hO.put _ (by omega), Or.inr rfl, OF.put _ _ (by omega)⟩
  | 4, _, _, _ => exact ⟨hO.put _ (by omega), Or.inr rfl, OF.put _ _ (by omega)⟩
  | 5, _, _, _ => exact ⟨hO.put _ (by omega), Or.inr rfl, OF.put _ _ (by omega)⟩
  | 6, _, _, _ => exact ⟨hO, Or.inr rfl, OF.rf _ _⟩
  | 7, _, _, _ =>
    have h2 := hO.2
    show OL (q_putsWhole m b t (m 143 (b + 40)).toNatClampNeg) b ∧ _ ∧ OF b m (q_putsWhole m b t (m 143 (b + 40)).toNatClampNeg)
    revert h2
    generalize (m 143 (b + 40)).toNatClampNeg = O
    intro h2
    unfold q_wdoDeed q_wdo7 q_putsWhole
    cases h20 : zc2 .ne (Int32.ofNat O) (Int32.ofNat 20) with
    | false => exact ⟨hO, Or.inr rfl, OF.rf _ _⟩
    | true =>
      have := tne_t h20
      refine ⟨?_, Or.inr rfl, ((OF.put _ _ (by omega)).put2 _ (by omega)).put2 _ (by omega)⟩
      show OL (zm2 _ 143 (b + 40) (Int32.ofNat (O + 1))) b
      unfold OL
      rw [zm2_a, nv_on (by omega)]
      exact ⟨rfl, by omega⟩
  | k + 8, h, _, _ => exact absurd h (by omega)
noncomputable def l_copyL (b : Nat) : Nat → Nat → (Nat → Nat → Int32) → Nat × (Nat → Nat → Int32)
  | 0, k, m => (k, m)
  | n + 1, k, m => (l_copyL b n ((k + 1)) ((zm2 m 143 (((b + 81) + k)) ((m 143 ((b + k)))))))
theorem w_copyL {σ : Nat → Nat × (Nat → Int32)} {yy : (Nat → Nat → Int64) × Bool × Nat × Nat} {W : Nat → Int32} {e : Nat} {all : Nat} {b : Nat} {t : Nat} {f : Nat} {x7 : Option Value} {x8 : Option Value} {d : Nat} {o : zO} {M9 : zMem} (hd : 1 ≤ d + 1) (hb : b + 162 ≤ 891) : ∀ (n : Nat) (k : Nat) (m : Nat → Nat → Int32), k + n = 81 → zEv σ (d + 1) 1905 95 [some (.ref 137), some (.int (Int32.ofNat e)), some (.int (Int32.ofNat all)), some (.int (Int32.ofNat b)), some (.int (Int32.ofNat t)), some (.int (Int32.ofNat f)), some (.int (Int32.ofNat (l_copyL b n k m).1)), x7, x8] [] (zS1, zrow ((l_copyL b n k m).2) 138 W, yy) o M9 → zEv σ (d + 1) 1905 61 [some (.ref 137), some (.int (Int32.ofNat e)), some (.int (Int32.ofNat all)), some (.int (Int32.ofNat b)), some (.int (Int32.ofNat t)), some (.int (Int32.ofNat f)), some (.int (Int32.ofNat k)), x7, x8] [] (zS1, zrow m 138 W, yy) o M9 := by
  intro n
  induction n with
  | zero =>
    intro k m hk kk
    refine zeP rfl rfl ?_
    refine zeKn (c := 81) rfl rfl rfl ?_
    refine zeT2 rfl rfl (zcge (by omega) (by omega) (by omega)) ?_
    simp only [l_copyL, cond_true, cond_false] at kk
    exact kk
  | succ n ih =>
    intro k m hk kk
    refine zeP rfl rfl ?_
    refine zeKn (c := 81) rfl rfl rfl ?_
    refine zeF2 rfl rfl (zcge_f (by omega) (by omega) (by omega)) ?_
    refine zeP rfl rfl ?_
    refine zeGR rfl rfl zS137 rfl rfl ?_
    refine zeP rfl rfl ?_
    refine zeKn (c := 81) rfl rfl rfl ?_
    refine zeAdd rfl ?_
    refine zeP rfl rfl ?_
    refine zeAdd rfl ?_
    refine zeP rfl rfl ?_
    refine zeGR rfl rfl zS137 rfl rfl ?_
    refine zeP rfl rfl ?_
    refine zeP rfl rfl ?_
    refine zeAdd rfl ?_
    refine zeQL (a := 143) (k := (b + k)) rfl rfl (by decide) rfl rfl (by omega) ?_
    refine zeQS (a := 143) (k := ((b + 81) + k)) rfl (by decide) rfl rfl (by omega) ?_
    refine zeInc rfl rfl ?_
    refine zeP rfl rfl ?_
    simp only [l_copyL, cond_true, cond_false] at kk
    exact ih ((k + 1))  ((zm2 m 143 (((b + 81) + k)) ((m 143 ((b + k)))))) (by omega)  kk
noncomputable def l_playL (W : Nat → Int32) (b : Nat) (t : Nat) : Nat → Int32 → Nat → (Nat → Nat → Int32) → Int32 × Nat × (Nat → Nat → Int32)
  | 0, is, p, m => (is, p, m)
  | n + 1, is, p, m => (bif zc1 .eq is then (is, p, m) else (l_playL W b t n ((q_wdoDeed m W ((b + 81)) t ((nv W (376 + 103 * t + (55 + 2 * p)))) ((nv W (376 + 103 * t + (55 + 2 * p + 1))))).1) ((p + 1)) ((q_wdoDeed m W ((b + 81)) t ((nv W (376 + 103 * t + (55 + 2 * p)))) ((nv W (376 + 103 * t + (55 + 2 * p + 1))))).2)))
theorem w_playL {σ : Nat → Nat × (Nat → Int32)} {yy : (Nat → Nat → Int64) × Bool × Nat × Nat} {W : Nat → Int32} {e : Nat} {all : Nat} {b : Nat} {t : Nat} {f : Nat} {q : Nat} {d : Nat} {o : zO} {M9 : zMem} (hd : 4 ≤ d + 1) (hb : b + 162 ≤ 891) (ht : t < 4) (hW : WG W) (hq : q ≤ 24) : ∀ (n : Nat) (is : Int32) (p : Nat) (m : Nat → Nat → Int32), p + n = q → OL m (b + 81) → is = 0 ∨ is = 1 → zEv σ (d + 1) 1905 160 [some (.ref 137), some (.int (Int32.ofNat e)), some (.int (Int32.ofNat all)), some (.int (Int32.ofNat b)), some (.int (Int32.ofNat t)), some (.int (Int32.ofNat f)), some (.int (Int32.ofNat q)), some (.int (l_playL W b t n is p m).1), some (.int (Int32.ofNat (l_playL W b t n is p m).2.1))] [] (zS1, zrow ((l_playL W b t n is p m).2.2) 138 W, yy) o M9 → zEv σ (d + 1) 1905 112 [some (.ref 137), some (.int (Int32.ofNat e)), some (.int (Int32.ofNat all)), some (.int (Int32.ofNat b)), some (.int (Int32.ofNat t)), some (.int (Int32.ofNat f)), some (.int (Int32.ofNat q)), some (.int is), some (.int (Int32.ofNat p))] [] (zS1, zrow m 138 W, yy) o M9 := by
  intro n
  induction n with
  | zero =>
    intro is p m hk hO his kk
    refine zeP rfl rfl ?_
    refine zeP rfl rfl ?_
    refine zeT2 rfl rfl (zcge (by omega) (by omega) (by omega)) ?_
    simp only [l_playL, cond_true, cond_false] at kk
    exact kk
  | succ n ih =>
    intro is p m hk hO his kk
    refine zeP rfl rfl ?_
    refine zeP rfl rfl ?_
    refine zeF2 rfl rfl (zcge_f (by omega) (by omega) (by omega)) ?_
    refine zeP rfl rfl ?_
    refine zeB1 rfl rfl (fun h1 => ?_) (fun h1 => ?_)
    · simp only [l_playL, h1, cond_true, cond_false] at kk
      exact kk
    · refine zeP rfl rfl ?_
      refine zeP rfl rfl ?_
      refine zeKn (c := 81) rfl rfl rfl ?_
      refine zeAdd rfl ?_
      refine zeP rfl rfl ?_
      refine zeP rfl rfl ?_
      refine zeP rfl rfl ?_
      refine zeP rfl rfl ?_
      refine zeKn (c := 0) rfl rfl rfl ?_
      refine zeCF rfl rfl rfl rfl rfl rfl (c_deedOf (m := m) (W := W) (t := t) (p := p) (k := 0) (by omega)) (by omega) ?_
      dsimp only [Option.toList, List.cons_append, List.nil_append]
      rw [(deedOf0 hW ht (by omega))]
      refine zeP rfl rfl ?_
      refine zeP rfl rfl ?_
      refine zeP rfl rfl ?_
      refine zeKn (c := 1) rfl rfl rfl ?_
      refine zeCF rfl rfl rfl rfl rfl rfl (c_deedOf (m := m) (W := W) (t := t) (p := p) (k := 1) (by omega)) (by omega) ?_
      dsimp only [Option.toList, List.cons_append, List.nil_append]
      rw [(deedOf1 hW ht (by omega))]
      refine zeCF rfl rfl rfl rfl rfl rfl (c_wdoDeed (m := m) (W := W) (b := (b + 81)) (t := t) (K := (nv W (376 + 103 * t + (55 + 2 * p)))) (n := (nv W (376 + 103 * t + (55 + 2 * p + 1)))) (by omega) ht hW hO (hW.D ht (by omega)).1 (hW.D ht (by omega)).2.1 (hW.D ht (by omega)).2.2) (by omega) ?_
      dsimp only [Option.toList, List.cons_append, List.nil_append]
      refine zeP rfl rfl ?_
      refine zeInc rfl rfl ?_
      refine zeP rfl rfl ?_
      simp only [l_playL, h1, cond_true, cond_false] at kk
      exact ih ((q_wdoDeed m W ((b + 81)) t ((nv W (376 + 103 * t + (55 + 2 * p)))) ((nv W (376 + 103 * t + (55 + 2 * p + 1))))).1) ((p + 1))  ((q_wdoDeed m W ((b + 81)) t ((nv W (376 + 103 * t + (55 + 2 * p)))) ((nv W (376 + 103 * t + (55 + 2 * p + 1))))).2) (by omega) (wdo_ok hO ht hW (hW.D ht (by omega)).1 (hW.D ht (by omega)).2.1 (hW.D ht (by omega)).2.2).1 (wdo_ok hO ht hW (hW.D ht (by omega)).1 (hW.D ht (by omega)).2.1 (hW.D ht (by omega)).2.2).2.1 kk
theorem copyL_v {b : Nat} : ∀ (n k : Nat) (m : Nat → Nat → Int32), k + n = 81 → (l_copyL b n k m).1 = 81 ∧ (∀ i, i ≠ 143 → (l_copyL b n k m).2 i = m i) ∧ (∀ c, c < b + 81 + k ∨ b + 162 ≤ c → (l_copyL b n k m).2 143 c = m 143 c) ∧ ∀ c, k ≤ c → c < 81 → (l_copyL b n k m).2 143 (b + 81 + c) = m 143 (b + c) := by
  intro n
  induction n with
  | zero =>
    intro k m hk
    unfold l_copyL
    exact ⟨by show k = 81; omega, fun _ _ => rfl, fun _ _ => rfl, fun c h1 h2 => absurd h1 (by omega)⟩
  | succ n ih =>
    intro k m hk
    unfold l_copyL
    obtain ⟨h1, h2, h3, h4⟩ := ih (k + 1) (zm2 m 143 (b + 81 + k) (m 143 (b + k))) (by omega)
    refine ⟨h1, fun i hi => (h2 i hi).trans (zm2_i _ _ hi), fun c hc => (h3 c (by omega)).trans (zm2_k _ _ (by omega)), fun c hc hc2 => ?_⟩
    by_cases e : c = k
    · subst e
      exact (h3 _ (by omega)).trans (zm2_a _ _ _ _)
    · exact (h4 c (by omega) hc2).trans (zm2_k _ _ (by omega))
theorem playL_ok {W : Nat → Int32} {e all b t f q : Nat} (hW : WG W) (ht : t < 4) (hq : q ≤ 24) : ∀ (n : Nat) (is : Int32) (p : Nat) (m : Nat → Nat → Int32), p + n = q → OL m (b + 81) → is = 0 ∨ is = 1 → OL (l_playL W b t n is p m).2.2 (b + 81) ∧ ((l_playL W b t n is p m).1 = 0 ∨ (l_playL W b t n is p m).1 = 1) ∧ OF (b + 81) m (l_playL W b t n is p m).2.2 := by
  intro n
  induction n with
  | zero => intro is p m hk hO his; exact ⟨hO, his, OF.rf _ _⟩
  | succ n ih =>
    intro is p m hk hO his
    unfold l_playL
    cases zc1 .eq is with
    | true => exact ⟨hO, his, OF.rf _ _⟩
    | false =>
      have hD := hW.D ht (p := p) (by omega)
      obtain ⟨h1, h2, h3⟩ := wdo_ok hO ht hW hD.1 hD.2.1 hD.2.2
      obtain ⟨g1, g2, g3⟩ := ih _ (p + 1) _ (by omega) h1 h2
      exact ⟨g1, g2, h3.tr g3⟩
end
section
/-- where a thread stands in a level of the search -/
noncomputable def fr (m : Nat → Nat → Int32) (b t : Nat) : Nat := (m 143 (b + 36 + t)).toNatClampNeg
noncomputable def LG (m : Nat → Nat → Int32) (W : Nat → Int32) (b : Nat) : Prop := ∀ t, t < 4 → m 143 (b + 36 + t) = Int32.ofNat (fr m b t) ∧ fr m b t ≤ nv W (376 + 103 * t + 22)
theorem OL.of_fr {m m' : Nat → Nat → Int32} {b : Nat} (h : OL m b) (e : ∀ c, c < b + 81 → m' 143 c = m 143 c) : OL m' b := by
  unfold OL
  rw [e _ (by omega)]
  exact h
theorem LG.of_fr {m m' : Nat → Nat → Int32} {W : Nat → Int32} {b : Nat} (h : LG m W b) (e : ∀ c, c < b + 81 → m' 143 c = m 143 c) : LG m' W b := by
  intro t ht
  have := h t ht
  unfold fr at *
  rw [e _ (by omega)]
  exact this
noncomputable def ordP (W : Nat → Int32) (b t : Nat) (m : Nat → Nat → Int32) : Int32 × Nat × (Nat → Nat → Int32) := l_playL W b t (bpn W t (fr m b t) - fr m b t) (Int32.ofNat 1) (fr m b t) (l_copyL b 81 0 m).2
noncomputable def ordM (W : Nat → Int32) (e b t : Nat) (m : Nat → Nat → Int32) : Nat → Nat → Int32 := zm2 (zm2 (ordP W b t m).2.2 143 (b + 81 + 36 + t) (Int32.ofNat (bpn W t (fr m b t)))) 144 e (Int32.ofNat t)
theorem copyL_OL {m : Nat → Nat → Int32} {b : Nat} (hO : OL m b) : OL (l_copyL b 81 0 m).2 (b + 81) := by
  have h := (copyL_v (b := b) 81 0 m rfl).2.2.2 40 (by omega) (by omega)
  unfold OL
  rw [show b + 81 + 40 = b + 81 + 40 from rfl, h]
  exact hO
theorem ordM_ok {m : Nat → Nat → Int32} {W : Nat → Int32} {e b t : Nat} (hW : WG W) (ht : t < 4) (hO : OL m b) (hL : LG m W b) (hf : fr m b t < nv W (376 + 103 * t + 22)) : OL (ordM W e b t m) (b + 81) ∧ LG (ordM W e b t m) W (b + 81) ∧ (∀ c, c < b + 81 → ordM W e b t m 143 c = m 143 c) ∧ (∀ i, i ≠ 143 → i ≠ 144 → ordM W e b t m i = m i) ∧ ((ordP W b t m).1 = 0 ∨ (ordP W b t m).1 = 1) := by
  have h24 := (hW.2 t ht).2.2.2.1.2.2
  have hbp := bp_n hW ht hf
  obtain ⟨c1, c2, c3, c4⟩ := copyL_v (b := b) 81 0 m rfl
  obtain ⟨p1, p2, p3⟩ := playL_ok (e := 0) (all := 0) (b := b) (t := t) (f := 0) (q := bpn W t (fr m b t)) hW ht (by omega) (bpn W t (fr m b t) - fr m b t) (Int32.ofNat 1) (fr m b t) (l_copyL b 81 0 m).2 (by omega) (copyL_OL hO) (Or.inr rfl)
  have e143 : ∀ c, ordM W e b t m 143 c = zm2 (ordP W b t m).2.2 143 (b + 81 + 36 + t) (Int32.ofNat (bpn W t (fr m b t))) 143 c := fun c => congrFun (zm2_i _ _ (by decide)) c
  refine ⟨?_, fun u hu => ?_, fun c hc => ?_, fun i h1 h2 => ?_, p2⟩
  · unfold OL
    rw [e143, zm2_k _ _ (by omega)]
    exact p1
  · have key : ordM W e b t m 143 (b + 81 + 36 + u) = if u = t then Int32.ofNat (bpn W t (fr m b t)) else m 143 (b + 36 + u) := by
      rw [e143]
      by_cases hut : u = t
      · subst hut
        rw [if_pos rfl, zm2_a]
      · rw [if_neg hut, zm2_k _ _ (by omega)]
        refine (p3.2 _ (by omega)).trans ?_
        rw [show b + 81 + 36 + u = b + 81 + (36 + u) by omega, c4 (36 + u) (by omega) (by omega), show b + (36 + u) = b + 36 + u by omega]
    unfold fr
    rw [key]
    by_cases hut : u = t
    · subst hut
      rw [if_pos rfl, nv_on (by omega)]
      exact ⟨rfl, hbp.2.2⟩
    · rw [if_neg hut]
      exact hL u hu
  · rw [e143, zm2_k _ _ (by omega)]
    exact (p3.2 c (by omega)).trans (c3 c (by omega))
  · unfold ordM
    rw [zm2_i _ _ h2, zm2_i _ _ h1]
    exact (p3.1 i h1).trans (c2 i h1)
noncomputable def l_orders (W : Nat → Int32) (e : Nat) (all : Nat) (b : Nat) (rec : ((Nat → Nat → Int32) → Int32 × (Nat → Nat → Int32))) : Nat → Nat → (Nat → Nat → Int32) → Int32 × (Nat → Nat → Int32)
  | 0, t, m => ((Int32.ofNat 0), m)
  | n + 1, t, m => (bif zc2 .ne (Int32.ofNat (fr m b t)) (Int32.ofNat (nv W (376 + 103 * t + 22))) then (bif zc1 .eq (l_playL W b t ((bpn W t (fr m b t) - fr m b t)) ((Int32.ofNat 1)) ((fr m b t)) ((l_copyL b 81 0 m).2)).1 then (l_orders W e all b rec n ((t + 1)) ((zm2 ((zm2 ((l_playL W b t ((bpn W t (fr m b t) - fr m b t)) ((Int32.ofNat 1)) ((fr m b t)) ((l_copyL b 81 0 m).2)).2.2) 143 ((((b + 81) + 36) + t)) ((Int32.ofNat (bpn W t (fr m b t)))))) 144 e ((Int32.ofNat t))))) else (bif zc1 .eq (rec ((zm2 ((zm2 ((l_playL W b t ((bpn W t (fr m b t) - fr m b t)) ((Int32.ofNat 1)) ((fr m b t)) ((l_copyL b 81 0 m).2)).2.2) 143 ((((b + 81) + 36) + t)) ((Int32.ofNat (bpn W t (fr m b t)))))) 144 e ((Int32.ofNat t))))).1 then (l_orders W e all b rec n ((t + 1)) ((rec ((zm2 ((zm2 ((l_playL W b t ((bpn W t (fr m b t) - fr m b t)) ((Int32.ofNat 1)) ((fr m b t)) ((l_copyL b 81 0 m).2)).2.2) 143 ((((b + 81) + 36) + t)) ((Int32.ofNat (bpn W t (fr m b t)))))) 144 e ((Int32.ofNat t))))).2)) else ((Int32.ofNat 1), (rec ((zm2 ((zm2 ((l_playL W b t ((bpn W t (fr m b t) - fr m b t)) ((Int32.ofNat 1)) ((fr m b t)) ((l_copyL b 81 0 m).2)).2.2) 143 ((((b + 81) + 36) + t)) ((Int32.ofNat (bpn W t (fr m b t)))))) 144 e ((Int32.ofNat t))))).2))) else (l_orders W e all b rec n ((t + 1)) m))
theorem w_orders {σ : Nat → Nat × (Nat → Int32)} {yy : (Nat → Nat → Int64) × Bool × Nat × Nat} {W : Nat → Int32} {e : Nat} {all : Nat} {b : Nat} {rec : ((Nat → Nat → Int32) → Int32 × (Nat → Nat → Int32))} {hr : Nat} {d : Nat} (hd : 6 ≤ d + 1) (hb : b + 162 ≤ 891) (he : e < 10) (hW : WG W) (hN4 : nv W 9 ≤ 4) (hd2 : hr + 1 ≤ d + 1) (hrec : ∀ m', OL m' (b + 81) → LG m' W (b + 81) → zF σ hr 1905 [.ref 137, .int (Int32.ofNat (e + 1)), .int (Int32.ofNat all)] (zS1, zrow m' 138 W, yy) (.inl (some (.int (rec m').1))) (zS1, zrow (rec m').2 138 W, yy) ∧ ((rec m').1 = 0 ∨ (rec m').1 = 1) ∧ (∀ i, i ≠ 143 → i ≠ 144 → (rec m').2 i = m' i) ∧ ∀ c, c < b + 162 → (rec m').2 143 c = m' 143 c) : ∀ (n : Nat) (t : Nat) (x5 : Option Value) (x6 : Option Value) (x7 : Option Value) (x8 : Option Value) (m : Nat → Nat → Int32), t + n = nv W 9 → OL m b → LG m W b → zEv σ (d + 1) 1905 19 [some (.ref 137), some (.int (Int32.ofNat e)), some (.int (Int32.ofNat all)), some (.int (Int32.ofNat b)), some (.int (Int32.ofNat t)), x5, x6, x7, x8] [] (zS1, zrow m 138 W, yy) (.inl (some (.int (l_orders W e all b rec n t m).1))) (zS1, zrow ((l_orders W e all b rec n t m).2) 138 W, yy) := by
  intro n
  induction n with
  | zero =>
    intro t x5 x6 x7 x8 m hk hO hL
    refine zeP rfl rfl ?_
    refine zeP rfl rfl ?_
    refine zeCF rfl rfl rfl rfl rfl rfl (c_threads (m := m) (W := W)  ) (by omega) ?_
    dsimp only [Option.toList, List.cons_append, List.nil_append]
    rw [(show q_threads W = Int32.ofNat (nv W 9) from hW.N)]
    refine zeT2 rfl rfl (zcge (by omega) (by omega) (by omega)) ?_
    refine zeKn (c := 0) rfl rfl rfl ?_
    exact zeRe rfl rfl rfl rfl (by rfl) (by rfl)
  | succ n ih =>
    intro t x5 x6 x7 x8 m hk hO hL
    refine zeP rfl rfl ?_
    refine zeP rfl rfl ?_
    refine zeCF rfl rfl rfl rfl rfl rfl (c_threads (m := m) (W := W)  ) (by omega) ?_
    dsimp only [Option.toList, List.cons_append, List.nil_append]
    rw [(show q_threads W = Int32.ofNat (nv W 9) from hW.N)]
    refine zeF2 rfl rfl (zcge_f (by omega) (by omega) (by omega)) ?_
    refine zeP rfl rfl ?_
    refine zeGR rfl rfl zS137 rfl rfl ?_
    refine zeP rfl rfl ?_
    refine zeKn (c := 36) rfl rfl rfl ?_
    refine zeAdd rfl ?_
    refine zeP rfl rfl ?_
    refine zeAdd rfl ?_
    refine zeQL (a := 143) (k := ((b + 36) + t)) rfl rfl (by decide) rfl rfl (by omega) ?_
    rw [(hL t (by omega)).1]
    refine zeP rfl rfl ?_
    refine zeP rfl rfl ?_
    refine zeP rfl rfl ?_
    refine zeP rfl rfl ?_
    refine zeKn (c := 22) rfl rfl rfl ?_
    refine zeCF rfl rfl rfl rfl rfl rfl (c_of (m := m) (W := W) (t := t) (k := 22) (by omega)) (by omega) ?_
    dsimp only [Option.toList, List.cons_append, List.nil_append]
    rw [(show q_of W t 22 = Int32.ofNat (nv W (376 + 103 * t + 22)) from ((hW.2 t (by omega)).2.2.2.1).1)]
    refine zeB2 rfl rfl (fun h1 => ?_) (fun h1 => ?_)
    · refine zeKn (c := 0) rfl rfl rfl ?_
      refine zeP rfl rfl ?_
      refine w_copyL (e := e) (all := all) (b := b) (t := t) (f := (fr m b t)) (x7 := x7) (x8 := x8) (W := W) (by omega) hb 81 (0)  m (by omega)  ?_
      refine zeP rfl rfl ?_
      refine zeP rfl rfl ?_
      refine zeP rfl rfl ?_
      refine zeCF rfl rfl rfl rfl rfl rfl (c_behindPart (m := (l_copyL b 81 0 m).2) (W := W) (t := t) (p := (fr m b t)) hW (by omega) (by have := tne_t h1; have := (hL t (by omega)).2; omega)) (by omega) ?_
      dsimp only [Option.toList, List.cons_append, List.nil_append]
      rw [(bp_n hW (by omega) (by have := tne_t h1; have := (hL t (by omega)).2; omega)).1]
      refine zeP rfl rfl ?_
      refine zeKn (c := 1) rfl rfl rfl ?_
      refine zeP rfl rfl ?_
      refine zeP rfl rfl ?_
      refine zeP rfl rfl ?_
      have hbp := (bp_n (t := t) (p := fr m b t) hW (by omega) (by have := tne_t h1; have := (hL t (by omega)).2; omega)).2
      have h24 := (hW.2 t (by omega)).2.2.2.1.2.2
      refine w_playL (e := e) (all := all) (b := b) (t := t) (f := (fr m b t)) (q := (bpn W t (fr m b t))) (W := W) (by omega) hb (by omega) hW (by omega) ((bpn W t (fr m b t) - fr m b t)) ((Int32.ofNat 1)) ((fr m b t))  ((l_copyL b 81 0 m).2) (by omega) (copyL_OL hO) (Or.inr rfl) ?_
      refine zeP rfl rfl ?_
      refine zeGR rfl rfl zS137 rfl rfl ?_
      refine zeP rfl rfl ?_
      refine zeKn (c := 81) rfl rfl rfl ?_
      refine zeAdd rfl ?_
      refine zeKn (c := 36) rfl rfl rfl ?_
      refine zeAdd rfl ?_
      refine zeP rfl rfl ?_
      refine zeAdd rfl ?_
      refine zeP rfl rfl ?_
      refine zeQS (a := 143) (k := (((b + 81) + 36) + t)) rfl (by decide) rfl rfl (by omega) ?_
      refine zeP rfl rfl ?_
      refine zeGR rfl rfl zS137 rfl rfl ?_
      refine zeP rfl rfl ?_
      refine zeP rfl rfl ?_
      refine zeQS (a := 144) (k := e) rfl (by decide) rfl rfl (by omega) ?_
      refine zeP rfl rfl ?_
      refine zeB1 rfl rfl (fun h2 => ?_) (fun h2 => ?_)
      · refine zeInc rfl rfl ?_
        refine zeP rfl rfl ?_
        simp only [l_orders, h1, h2, cond_true, cond_false]
        exact ih ((t + 1)) (some (.int (Int32.ofNat (fr m b t)))) (some (.int (Int32.ofNat (bpn W t (fr m b t))))) (some (.int (l_playL W b t ((bpn W t (fr m b t) - fr m b t)) ((Int32.ofNat 1)) ((fr m b t)) ((l_copyL b 81 0 m).2)).1)) (some (.int (Int32.ofNat (l_playL W b t ((bpn W t (fr m b t) - fr m b t)) ((Int32.ofNat 1)) ((fr m b t)) ((l_copyL b 81 0 m).2)).2.1)))  ((zm2 ((zm2 ((l_playL W b t ((bpn W t (fr m b t) - fr m b t)) ((Int32.ofNat 1)) ((fr m b t)) ((l_copyL b 81 0 m).2)).2.2) 143 ((((b + 81) + 36) + t)) ((Int32.ofNat (bpn W t (fr m b t)))))) 144 e ((Int32.ofNat t)))) (by omega) (hO.of_fr (ordM_ok (e := e) hW (by omega) hO hL (by have := tne_t h1; have := (hL t (by omega)).2; omega)).2.2.1) (hL.of_fr (ordM_ok (e := e) hW (by omega) hO hL (by have := tne_t h1; have := (hL t (by omega)).2; omega)).2.2.1)
      · refine zeP rfl rfl ?_
        refine zeP rfl rfl ?_
        refine zeKn (c := 1) rfl rfl rfl ?_
        refine zeAdd rfl ?_
        refine zeP rfl rfl ?_
        refine zeCF rfl rfl rfl rfl rfl rfl ((hrec ((zm2 ((zm2 ((l_playL W b t ((bpn W t (fr m b t) - fr m b t)) ((Int32.ofNat 1)) ((fr m b t)) ((l_copyL b 81 0 m).2)).2.2) 143 ((((b + 81) + 36) + t)) ((Int32.ofNat (bpn W t (fr m b t)))))) 144 e ((Int32.ofNat t)))) (ordM_ok (e := e) hW (by omega) hO hL (by have := tne_t h1; have := (hL t (by omega)).2; omega)).1 (ordM_ok (e := e) hW (by omega) hO hL (by have := tne_t h1; have := (hL t (by omega)).2; omega)).2.1).1) (by omega) ?_
        dsimp only [Option.toList, List.cons_append, List.nil_append]
        refine zeB1 rfl rfl (fun h3 => ?_) (fun h3 => ?_)
        · refine zeInc rfl rfl ?_
          refine zeP rfl rfl ?_
          simp only [l_orders, h1, h2, h3, cond_true, cond_false]
          exact ih ((t + 1)) (some (.int (Int32.ofNat (fr m b t)))) (some (.int (Int32.ofNat (bpn W t (fr m b t))))) (some (.int (l_playL W b t ((bpn W t (fr m b t) - fr m b t)) ((Int32.ofNat 1)) ((fr m b t)) ((l_copyL b 81 0 m).2)).1)) (some (.int (Int32.ofNat (l_playL W b t ((bpn W t (fr m b t) - fr m b t)) ((Int32.ofNat 1)) ((fr m b t)) ((l_copyL b 81 0 m).2)).2.1)))  ((rec ((zm2 ((zm2 ((l_playL W b t ((bpn W t (fr m b t) - fr m b t)) ((Int32.ofNat 1)) ((fr m b t)) ((l_copyL b 81 0 m).2)).2.2) 143 ((((b + 81) + 36) + t)) ((Int32.ofNat (bpn W t (fr m b t)))))) 144 e ((Int32.ofNat t))))).2) (by omega) (hO.of_fr (fun c hc => ((hrec _ (ordM_ok (e := e) hW (by omega) hO hL (by have := tne_t h1; have := (hL t (by omega)).2; omega)).1 (ordM_ok (e := e) hW (by omega) hO hL (by have := tne_t h1; have := (hL t (by omega)).2; omega)).2.1).2.2.2 c (by omega)).trans ((ordM_ok (e := e) hW (by omega) hO hL (by have := tne_t h1; have := (hL t (by omega)).2; omega)).2.2.1 c hc))) (hL.of_fr (fun c hc => ((hrec _ (ordM_ok (e := e) hW (by omega) hO hL (by have := tne_t h1; have := (hL t (by omega)).2; omega)).1 (ordM_ok (e := e) hW (by omega) hO hL (by have := tne_t h1; have := (hL t (by omega)).2; omega)).2.1).2.2.2 c (by omega)).trans ((ordM_ok (e := e) hW (by omega) hO hL (by have := tne_t h1; have := (hL t (by omega)).2; omega)).2.2.1 c hc)))
        · refine zeKn (c := 1) rfl rfl rfl ?_
          exact zeRe rfl rfl rfl rfl (by simp only [l_orders, h1, h2, h3, cond_true, cond_false] <;> rfl) (by simp only [l_orders, h1, h2, h3, cond_true, cond_false] <;> rfl)
    · refine zeP rfl rfl ?_
      refine zeInc rfl rfl ?_
      refine zeP rfl rfl ?_
      simp only [l_orders, h1, cond_true, cond_false]
      exact ih ((t + 1)) (some (.int (Int32.ofNat (fr m b t)))) (x6) (x7) (x8)  m (by omega) hO hL
end
section
theorem asNow2_b {m : Nat → Nat → Int32} {W : Nat → Int32} {b O : Nat} : ∀ (n : Nat) (is : Int32) (k : Nat), is = 0 ∨ is = 1 → l_asNow2 m W b O n is k = 0 ∨ l_asNow2 m W b O n is k = 1 := by
  intro n
  induction n with
  | zero => intro is k h; exact h
  | succ n ih =>
    intro is k h
    unfold l_asNow2
    cases zc1 .eq is with
    | true => exact h
    | false =>
      rw [cond_false]
      cases zc2 .ne (m 143 (b + 41 + k)) (W (96 + k)) with
      | true => exact ih _ _ (Or.inl rfl)
      | false => exact ih _ _ (Or.inr rfl)
theorem asNow1_b {m : Nat → Nat → Int32} {W : Nat → Int32} {b O : Nat} : ∀ (n : Nat) (is : Int32) (k : Nat), is = 0 ∨ is = 1 → l_asNow1 m W b O n is k = 0 ∨ l_asNow1 m W b O n is k = 1 := by
  intro n
  induction n with
  | zero => intro is k h; exact asNow2_b _ _ _ h
  | succ n ih =>
    intro is k h
    unfold l_asNow1
    cases zc1 .eq is with
    | true => exact asNow2_b _ _ _ h
    | false =>
      rw [cond_false]
      cases zc2 .ne (m 143 (b + 0 + k)) (W (32 + k)) with
      | true => exact ih _ _ (Or.inl rfl)
      | false => exact ih _ _ (Or.inr rfl)
theorem isAsNow_b {m : Nat → Nat → Int32} {W : Nat → Int32} {b O : Nat} : q_isAsNow m W b O = 0 ∨ q_isAsNow m W b O = 1 := by
  unfold q_isAsNow
  cases zc2 .ne (m 143 (b + 40)) (W 14) with
  | true => exact asNow1_b _ _ _ (Or.inl rfl)
  | false => exact asNow1_b _ _ _ (Or.inr rfl)
theorem tne_ff {a b : Nat} (h : a = b) : zc2 .ne (Int32.ofNat a) (Int32.ofNat b) = false := by
  subst h
  exact decide_eq_false (fun q => q rfl)
theorem tne_tt {a b : Nat} (ha : a ≤ 100000) (hb : b ≤ 100000) (h : a ≠ b) : zc2 .ne (Int32.ofNat a) (Int32.ofNat b) = true := by
  apply decide_eq_true
  intro e
  have h3 := congrArg Int32.toInt e
  rw [zoN (by omega), zoN (by omega)] at h3
  omega
noncomputable def q_ordersE (m : Nat → Nat → Int32) (W : Nat → Int32) (e : Nat) (all : Nat) : Int32 := (q_isAsNow m W ((81 * e)) ((nv W 14)))
theorem p_ordersE {σ : Nat → Nat × (Nat → Int32)} {yy : (Nat → Nat → Int64) × Bool × Nat × Nat} {m : Nat → Nat → Int32} {W : Nat → Int32} {e : Nat} {all : Nat} {d : Nat} (hd : 2 ≤ d + 1) (hea : e = all) (he : e ≤ 10) (hW : WG W) : zEv σ (d + 1) 1905 0 [some (.ref 137), some (.int (Int32.ofNat e)), some (.int (Int32.ofNat all)), none, none, none, none, none, none] [] (zS1, zrow m 138 W, yy) (.inl (some (.int (q_ordersE m W e all)))) (zS1, zrow m 138 W, yy) := by
  refine zeKn (c := 81) rfl rfl rfl ?_
  refine zeP rfl rfl ?_
  refine zeMul rfl ?_
  refine zeP rfl rfl ?_
  refine zeP rfl rfl ?_
  refine zeP rfl rfl ?_
  refine zeF2 rfl rfl (tne_ff hea) ?_
  refine zeP rfl rfl ?_
  refine zeP rfl rfl ?_
  refine zeCF rfl rfl rfl rfl rfl rfl (c_isAsNow (m := m) (W := W) (b := (81 * e)) (O := (nv W 14)) hW.1.2.2.2.2.1.1 hW.1.2.2.2.2.1.2.2 (by omega)) (by omega) ?_
  dsimp only [Option.toList, List.cons_append, List.nil_append]
  exact zeRe rfl rfl rfl (zretB rfl rfl isAsNow_b) (by rfl) (by rfl)
noncomputable def q_ordersN (m : Nat → Nat → Int32) (W : Nat → Int32) (e : Nat) (all : Nat) (rec : ((Nat → Nat → Int32) → Int32 × (Nat → Nat → Int32))) : Int32 × (Nat → Nat → Int32) := (l_orders W e all ((81 * e)) rec ((nv W 9)) 0 m)
theorem p_ordersN {σ : Nat → Nat × (Nat → Int32)} {yy : (Nat → Nat → Int64) × Bool × Nat × Nat} {m : Nat → Nat → Int32} {W : Nat → Int32} {e : Nat} {all : Nat} {rec : ((Nat → Nat → Int32) → Int32 × (Nat → Nat → Int32))} {hr : Nat} {d : Nat} (hd : 6 ≤ d + 1) (hne : e ≠ all) (he : e < 10) (hal : all ≤ 10) (hW : WG W) (hd2 : hr + 1 ≤ d + 1) (hrec : ∀ m', OL m' (81 * e + 81) → LG m' W (81 * e + 81) → zF σ hr 1905 [.ref 137, .int (Int32.ofNat (e + 1)), .int (Int32.ofNat all)] (zS1, zrow m' 138 W, yy) (.inl (some (.int (rec m').1))) (zS1, zrow (rec m').2 138 W, yy) ∧ ((rec m').1 = 0 ∨ (rec m').1 = 1) ∧ (∀ i, i ≠ 143 → i ≠ 144 → (rec m').2 i = m' i) ∧ ∀ c, c < 81 * e + 162 → (rec m').2 143 c = m' 143 c) (hO : OL m (81 * e)) (hL : LG m W (81 * e)) : zEv σ (d + 1) 1905 0 [some (.ref 137), some (.int (Int32.ofNat e)), some (.int (Int32.ofNat all)), none, none, none, none, none, none] [] (zS1, zrow m 138 W, yy) (.inl (some (.int (q_ordersN m W e all rec).1))) (zS1, zrow ((q_ordersN m W e all rec).2) 138 W, yy) := by
  refine zeKn (c := 81) rfl rfl rfl ?_
  refine zeP rfl rfl ?_
  refine zeMul rfl ?_
  refine zeP rfl rfl ?_
  refine zeP rfl rfl ?_
  refine zeP rfl rfl ?_
  refine zeT2 rfl rfl (tne_tt (by omega) (by omega) hne) ?_
  refine zeKn (c := 0) rfl rfl rfl ?_
  refine zeP rfl rfl ?_
  simp only [q_ordersN, cond_true, cond_false]
  exact w_orders (e := e) (all := all) (b := (81 * e)) (rec := rec) (hr := hr) (W := W) (by omega) (by omega) he hW hW.N4 hd2 hrec ((nv W 9)) (0) (none) (none) (none) (none)  m (by omega) hO hL
noncomputable def q_orders (W : Nat → Int32) (all : Nat) : Nat → Nat → (Nat → Nat → Int32) → Int32 × (Nat → Nat → Int32)
  | 0, e, m => (q_isAsNow m W (81 * e) (nv W 14), m)
  | n + 1, e, m => l_orders W e all (81 * e) (q_orders W all n (e + 1)) (nv W 9) 0 m
/-- what a search leaves alone -/
noncomputable def OK3 (b : Nat) (m : Nat → Nat → Int32) (X : Int32 × (Nat → Nat → Int32)) : Prop := (X.1 = 0 ∨ X.1 = 1) ∧ (∀ i, i ≠ 143 → i ≠ 144 → X.2 i = m i) ∧ ∀ c, c < b + 81 → X.2 143 c = m 143 c
theorem l_orders_ok {W : Nat → Int32} {e all b : Nat} {rec : (Nat → Nat → Int32) → Int32 × (Nat → Nat → Int32)} (hW : WG W) (hrec : ∀ m', OL m' (b + 81) → LG m' W (b + 81) → OK3 (b + 81) m' (rec m')) : ∀ (n t : Nat) (m : Nat → Nat → Int32), t + n = nv W 9 → OL m b → LG m W b → OK3 b m (l_orders W e all b rec n t m) := by
  have hN4 := hW.N4
  intro n
  induction n with
  | zero => intro t m hk hO hL; exact ⟨Or.inl rfl, fun _ _ _ => rfl, fun _ _ => rfl⟩
  | succ n ih =>
    intro t m hk hO hL
    unfold l_orders
    cases h1 : zc2 .ne (Int32.ofNat (fr m b t)) (Int32.ofNat (nv W (376 + 103 * t + 22))) with
    | false => exact ih (t + 1) m (by omega) hO hL
    | true =>
      have hf : fr m b t < nv W (376 + 103 * t + 22) := by
        have := tne_t h1
        have := (hL t (by omega)).2
        omega
      obtain ⟨o1, o2, o3, o4, o5⟩ := ordM_ok (e := e) hW (by omega) hO hL hf
      have hr := hrec _ o1 o2
      have hO1 := hO.of_fr o3
      have hL1 := hL.of_fr o3
      have f3 : ∀ c, c < b + 81 → (rec (ordM W e b t m)).2 143 c = m 143 c := fun c hc => (hr.2.2 c (by omega)).trans (o3 c hc)
      have f4 : ∀ i, i ≠ 143 → i ≠ 144 → (rec (ordM W e b t m)).2 i = m i := fun i h1 h2 => (hr.2.1 i h1 h2).trans (o4 i h1 h2)
      show OK3 b m (bif zc1 .eq (ordP W b t m).1 then l_orders W e all b rec n (t + 1) (ordM W e b t m) else bif zc1 .eq (rec (ordM W e b t m)).1 then l_orders W e all b rec n (t + 1) (rec (ordM W e b t m)).2 else (Int32.ofNat 1, (rec (ordM W e b t m)).2))
      cases zc1 .eq (ordP W b t m).1 with
      | true =>
        obtain ⟨g1, g2, g3⟩ := ih (t + 1) _ (by omega) hO1 hL1
        exact ⟨g1, fun i h1 h2 => (g2 i h1 h2).trans (o4 i h1 h2), fun c hc => (g3 c hc).trans (o3 c hc)⟩
      | false =>
        cases zc1 .eq (rec (ordM W e b t m)).1 with
        | true =>
          obtain ⟨g1, g2, g3⟩ := ih (t + 1) _ (by omega) (hO.of_fr f3) (hL.of_fr f3)
          exact ⟨g1, fun i h1 h2 => (g2 i h1 h2).trans (f4 i h1 h2), fun c hc => (g3 c hc).trans (f3 c hc)⟩
        | false => exact ⟨Or.inr rfl, f4, f3⟩
theorem orders_ok {W : Nat → Int32} {all : Nat} (hW : WG W) : ∀ (n e b : Nat) (m : Nat → Nat → Int32), e + n = all → b = 81 * e → OL m b → LG m W b → OK3 b m (q_orders W all n e m) := by
  intro n
  induction n with
  | zero => intro e b m hk hb hO hL; exact ⟨isAsNow_b, fun _ _ _ => rfl, fun _ _ => rfl⟩
  | succ n ih =>
    intro e b m hk hb hO hL
    subst hb
    have h := l_orders_ok (e := e) (all := all) (b := 81 * e) (rec := q_orders W all n (e + 1)) hW (fun m' h1 h2 => ih (e + 1) (81 * e + 81) m' (by omega) (by omega) h1 h2) (nv W 9) 0 m (by omega) hO hL
    exact h
theorem c_orders {σ : Nat → Nat × (Nat → Int32)} {yy : (Nat → Nat → Int64) × Bool × Nat × Nat} {W : Nat → Int32} {all : Nat} (hW : WG W) (hal : all ≤ 10) : ∀ (n e b : Nat) (m : Nat → Nat → Int32), e + n = all → b = 81 * e → OL m b → LG m W b → zF σ (n + 6) 1905 [.ref 137, .int (Int32.ofNat e), .int (Int32.ofNat all)] (zS1, zrow m 138 W, yy) (.inl (some (.int (q_orders W all n e m).1))) (zS1, zrow (q_orders W all n e m).2 138 W, yy) := by
  intro n
  induction n with
  | zero =>
    intro e b m hk hb hO hL d hd
    subst hb
    obtain ⟨d, rfl⟩ : ∃ k, d = k + 1 := ⟨d - 1, by omega⟩
    exact p_ordersE (e := e) (all := all) (by omega) (by omega) (by omega) hW
  | succ n ih =>
    intro e b m hk hb hO hL d hd
    subst hb
    obtain ⟨d, rfl⟩ : ∃ k, d = k + 1 := ⟨d - 1, by omega⟩
    exact p_ordersN (e := e) (all := all) (rec := q_orders W all n (e + 1)) (hr := n + 6) (by omega) (by omega) (by omega) hal hW (by omega) (fun m' h1 h2 => ⟨ih (e + 1) (81 * e + 81) m' (by omega) (by omega) h1 h2, (orders_ok hW n (e + 1) (81 * e + 81) m' (by omega) (by omega) h1 h2).1, (orders_ok hW n (e + 1) (81 * e + 81) m' (by omega) (by omega) h1 h2).2.1, fun c hc => (orders_ok hW n (e + 1) (81 * e + 81) m' (by omega) (by omega) h1 h2).2.2 c (by omega)⟩) hO hL
noncomputable def ptn (W : Nat → Int32) (t : Nat) : Nat := (q_partsOf W t).toNatClampNeg
theorem l_partsOf_n {W : Nat → Int32} {t : Nat} : ∀ (n c p : Nat), ∃ v, v ≤ c + n ∧ l_partsOf W t n c p = Int32.ofNat v := by
  intro n
  induction n with
  | zero => intro c p; exact ⟨c, by omega, rfl⟩
  | succ n ih =>
    intro c p
    unfold l_partsOf
    cases zc2 .ge (Int32.ofNat p) (Int32.ofNat (nv W (376 + 103 * t + 22))) with
    | true => exact ⟨c, by omega, rfl⟩
    | false =>
      obtain ⟨v, h1, h2⟩ := ih (c + 1) (bpn W t p)
      exact ⟨v, by omega, h2⟩
theorem pt_n {W : Nat → Int32} {t : Nat} (hW : WG W) (ht : t < 4) : q_partsOf W t = Int32.ofNat (ptn W t) ∧ ptn W t ≤ 24 := by
  have h24 := (hW.2 t ht).2.2.2.1.2.2
  obtain ⟨v, h1, h2⟩ := l_partsOf_n (W := W) (t := t) (nv W (376 + 103 * t + 22)) 0 0
  unfold ptn
  have e : q_partsOf W t = Int32.ofNat v := h2
  rw [e, nv_on (by omega)]
  exact ⟨rfl, by omega⟩
noncomputable def l_allParts (W : Nat → Int32) : Nat → Nat → Nat → Nat × Nat
  | 0, a, t => (a, t)
  | n + 1, a, t => (l_allParts W n ((a + (ptn W t))) ((t + 1)))
theorem w_allParts {σ : Nat → Nat × (Nat → Int32)} {yy : (Nat → Nat → Int64) × Bool × Nat × Nat} {m : Nat → Nat → Int32} {W : Nat → Int32} {k : Int32} {d : Nat} {o : zO} {M9 : zMem} (hd : 7 ≤ d + 1) (hW : WG W) (hN4 : nv W 9 ≤ 4) : ∀ (n : Nat) (a : Nat) (t : Nat), t + n = nv W 9 → a ≤ 24 * t → zEv σ (d + 1) 1906 31 [some (.ref 137), some (.int k), some (.int (Int32.ofNat (l_allParts W n a t).1)), some (.int (Int32.ofNat (l_allParts W n a t).2))] [] (zS1, zrow m 138 W, yy) o M9 → zEv σ (d + 1) 1906 9 [some (.ref 137), some (.int k), some (.int (Int32.ofNat a)), some (.int (Int32.ofNat t))] [] (zS1, zrow m 138 W, yy) o M9 := by
  intro n
  induction n with
  | zero =>
    intro a t hk ha kk
    refine zeP rfl rfl ?_
    refine zeP rfl rfl ?_
    refine zeCF rfl rfl rfl rfl rfl rfl (c_threads (m := m) (W := W)  ) (by omega) ?_
    dsimp only [Option.toList, List.cons_append, List.nil_append]
    rw [(show q_threads W = Int32.ofNat (nv W 9) from hW.N)]
    refine zeT2 rfl rfl (zcge (by omega) (by omega) (by omega)) ?_
    simp only [l_allParts, cond_true, cond_false] at kk
    exact kk
  | succ n ih =>
    intro a t hk ha kk
    refine zeP rfl rfl ?_
    refine zeP rfl rfl ?_
    refine zeCF rfl rfl rfl rfl rfl rfl (c_threads (m := m) (W := W)  ) (by omega) ?_
    dsimp only [Option.toList, List.cons_append, List.nil_append]
    rw [(show q_threads W = Int32.ofNat (nv W 9) from hW.N)]
    refine zeF2 rfl rfl (zcge_f (by omega) (by omega) (by omega)) ?_
    refine zeP rfl rfl ?_
    refine zeP rfl rfl ?_
    refine zeP rfl rfl ?_
    refine zeCF rfl rfl rfl rfl rfl rfl (c_partsOf (m := m) (W := W) (t := t) hW (by omega)) (by omega) ?_
    dsimp only [Option.toList, List.cons_append, List.nil_append]
    rw [(pt_n hW (by omega)).1]
    refine zeAdd rfl ?_
    refine zeP rfl rfl ?_
    refine zeInc rfl rfl ?_
    refine zeP rfl rfl ?_
    simp only [l_allParts, cond_true, cond_false] at kk
    exact ih ((a + (ptn W t))) ((t + 1))   (by omega) (by have := (pt_n hW (show t < 4 by omega)).2; omega) kk
theorem allParts_le {W : Nat → Int32} (hW : WG W) : ∀ (n a t : Nat), t + n = nv W 9 → a ≤ 24 * t → (l_allParts W n a t).1 ≤ 96 := by
  have := hW.N4
  intro n
  induction n with
  | zero => intro a t h1 h2; show a ≤ 96; omega
  | succ n ih =>
    intro a t h1 h2
    unfold l_allParts
    have := (pt_n hW (show t < 4 by omega)).2
    exact ih _ _ (by omega) (by omega)
noncomputable def l_firstL (W : Nat → Int32) : Nat → Nat → (Nat → Nat → Int32) → Nat × (Nat → Nat → Int32)
  | 0, i, m => (i, m)
  | n + 1, i, m => (bif zc2 .ge (Int32.ofNat i) (Int32.ofNat 32) then (l_firstL W n ((i + 1)) ((zm2 m 143 i ((Int32.ofNat 0))))) else (l_firstL W n ((i + 1)) ((zm2 m 143 i ((W (64 + i)))))))
theorem w_firstL {σ : Nat → Nat × (Nat → Int32)} {yy : (Nat → Nat → Int64) × Bool × Nat × Nat} {W : Nat → Int32} {k : Int32} {a : Nat} {d : Nat} {o : zO} {M9 : zMem} (hd : 1 ≤ d + 1) : ∀ (n : Nat) (i : Nat) (m : Nat → Nat → Int32), i + n = 81 → zEv σ (d + 1) 1906 96 [some (.ref 137), some (.int k), some (.int (Int32.ofNat a)), some (.int (Int32.ofNat (l_firstL W n i m).1))] [] (zS1, zrow ((l_firstL W n i m).2) 138 W, yy) o M9 → zEv σ (d + 1) 1906 59 [some (.ref 137), some (.int k), some (.int (Int32.ofNat a)), some (.int (Int32.ofNat i))] [] (zS1, zrow m 138 W, yy) o M9 := by
  intro n
  induction n with
  | zero =>
    intro i m hk kk
    refine zeP rfl rfl ?_
    refine zeKn (c := 81) rfl rfl rfl ?_
    refine zeT2 rfl rfl (zcge (by omega) (by omega) (by omega)) ?_
    simp only [l_firstL, cond_true, cond_false] at kk
    exact kk
  | succ n ih =>
    intro i m hk kk
    refine zeP rfl rfl ?_
    refine zeKn (c := 81) rfl rfl rfl ?_
    refine zeF2 rfl rfl (zcge_f (by omega) (by omega) (by omega)) ?_
    refine zeP rfl rfl ?_
    refine zeGR rfl rfl zS137 rfl rfl ?_
    refine zeP rfl rfl ?_
    refine zeP rfl rfl ?_
    refine zeKn (c := 32) rfl rfl rfl ?_
    refine zeB2 rfl rfl (fun h1 => ?_) (fun h1 => ?_)
    · refine zeKn (c := 0) rfl rfl rfl ?_
      refine zeQS (a := 143) (k := i) rfl (by decide) rfl rfl (by omega) ?_
      refine zeInc rfl rfl ?_
      refine zeP rfl rfl ?_
      simp only [l_firstL, h1, cond_true, cond_false] at kk
      exact ih ((i + 1))  ((zm2 m 143 i ((Int32.ofNat 0)))) (by omega)  kk
    · refine zeP rfl rfl ?_
      refine zeGR rfl rfl zS137 rfl rfl ?_
      refine zeKn (c := 64) rfl rfl rfl ?_
      refine zeP rfl rfl ?_
      refine zeAdd rfl ?_
      refine zeWL (k := (64 + i)) rfl (by omega) ?_
      refine zeP rfl rfl ?_
      refine zeQS (a := 143) (k := i) rfl (by decide) rfl rfl (by omega) ?_
      refine zeInc rfl rfl ?_
      refine zeP rfl rfl ?_
      simp only [l_firstL, h1, cond_true, cond_false] at kk
      exact ih ((i + 1))  ((zm2 m 143 i ((W (64 + i))))) (by omega)  kk
theorem firstL_v {W : Nat → Int32} : ∀ (n i : Nat) (m : Nat → Nat → Int32), i + n = 81 → (∀ j, j ≠ 143 → (l_firstL W n i m).2 j = m j) ∧ (∀ c, c < i → (l_firstL W n i m).2 143 c = m 143 c) ∧ ∀ c, i ≤ c → c < 81 → (l_firstL W n i m).2 143 c = if c < 32 then W (64 + c) else Int32.ofNat 0 := by
  intro n
  induction n with
  | zero => intro i m hk; exact ⟨fun _ _ => rfl, fun _ _ => rfl, fun c h1 h2 => absurd h1 (by omega)⟩
  | succ n ih =>
    intro i m hk
    unfold l_firstL
    cases h1 : zc2 .ge (Int32.ofNat i) (Int32.ofNat 32) with
    | true =>
      have := tge_t (by omega) (by omega) h1
      obtain ⟨g1, g2, g3⟩ := ih (i + 1) (zm2 m 143 i (Int32.ofNat 0)) (by omega)
      refine ⟨fun j hj => (g1 j hj).trans (zm2_i _ _ hj), fun c hc => (g2 c (by omega)).trans (zm2_k _ _ (by omega)), fun c hc hc2 => ?_⟩
      by_cases e : c = i
      · subst e
        rw [if_neg (by omega)]
        exact (g2 c (by omega)).trans (zm2_a _ _ _ _)
      · exact g3 c (by omega) hc2
    | false =>
      have := tge_f (by omega) (by omega) h1
      obtain ⟨g1, g2, g3⟩ := ih (i + 1) (zm2 m 143 i (W (64 + i))) (by omega)
      refine ⟨fun j hj => (g1 j hj).trans (zm2_i _ _ hj), fun c hc => (g2 c (by omega)).trans (zm2_k _ _ (by omega)), fun c hc hc2 => ?_⟩
      by_cases e : c = i
      · subst e
        rw [if_pos (by omega)]
        exact (g2 c (by omega)).trans (zm2_a _ _ _ _)
      · exact g3 c (by omega) hc2
theorem firstL_O {m : Nat → Nat → Int32} {W : Nat → Int32} : OL (l_firstL W 81 0 m).2 0 := by
  have h := (firstL_v (W := W) 81 0 m rfl).2.2 40 (by omega) (by omega)
  unfold OL
  rw [if_neg (by omega)] at h
  rw [show 0 + 40 = 40 from rfl, h]
  exact ⟨rfl, by decide⟩
theorem firstL_L {m : Nat → Nat → Int32} {W : Nat → Int32} : LG (l_firstL W 81 0 m).2 W 0 := by
  intro t ht
  have h := (firstL_v (W := W) 81 0 m rfl).2.2 (36 + t) (by omega) (by omega)
  unfold fr
  rw [show 0 + 36 + t = 36 + t by omega, h, if_neg (by omega)]
  exact ⟨rfl, Nat.zero_le _⟩
noncomputable def q_serial (m : Nat → Nat → Int32) (W : Nat → Int32) (v : Int32) : Int32 × (Nat → Nat → Int32) := (bif zc1 .eq (q_areAllDone W) then ((-1), (zm2 m 137 0 (Int32.ofNat 0))) else (bif zc2 .gt (Int32.ofNat (l_allParts W ((nv W 9)) 0 0).1) (Int32.ofNat 10) then ((-1), (zm2 m 137 0 (Int32.ofNat 0))) else (bif zc1 .ne (q_in v ((Int32.ofNat 0)) (((Int32.ofNat (l_allParts W ((nv W 9)) 0 0).1) - (Int32.ofNat 1)))) then (bif zc1 .eq (q_orders W ((l_allParts W ((nv W 9)) 0 0).1) ((l_allParts W ((nv W 9)) 0 0).1) 0 ((l_firstL W 81 0 ((zm2 m 137 0 (Int32.ofNat 0)))).2)).1 then ((-1), (q_orders W ((l_allParts W ((nv W 9)) 0 0).1) ((l_allParts W ((nv W 9)) 0 0).1) 0 ((l_firstL W 81 0 ((zm2 m 137 0 (Int32.ofNat 0)))).2)).2) else ((((q_orders W ((l_allParts W ((nv W 9)) 0 0).1) ((l_allParts W ((nv W 9)) 0 0).1) 0 ((l_firstL W 81 0 ((zm2 m 137 0 (Int32.ofNat 0)))).2)).2) 144 ((v.toNatClampNeg))), (q_orders W ((l_allParts W ((nv W 9)) 0 0).1) ((l_allParts W ((nv W 9)) 0 0).1) 0 ((l_firstL W 81 0 ((zm2 m 137 0 (Int32.ofNat 0)))).2)).2)) else ((-1), (zm2 m 137 0 (Int32.ofNat 0))))))
theorem p_serial {σ : Nat → Nat × (Nat → Int32)} {yy : (Nat → Nat → Int64) × Bool × Nat × Nat} {m : Nat → Nat → Int32} {W : Nat → Int32} {v : Int32} {d : Nat} (hd : 17 ≤ d + 1) (hW : WG W) : zEv σ (d + 1) 1906 0 [some (.ref 137), some (.int v), none, none] [] (zS1, zrow m 138 W, yy) (.inl (some (.int (q_serial m W v).1))) (zS1, zrow ((q_serial m W v).2) 138 W, yy) := by
  refine zeP rfl rfl ?_
  refine zeKn (c := 0) rfl rfl rfl ?_
  refine zeFP rfl rfl rfl ?_
  refine zeKn (c := 0) rfl rfl rfl ?_
  refine zeP rfl rfl ?_
  refine zeKn (c := 0) rfl rfl rfl ?_
  refine zeP rfl rfl ?_
  refine w_allParts (k := v) (W := W) (m := (zm2 m 137 0 (Int32.ofNat 0))) (by omega) hW hW.N4 ((nv W 9)) (0) (0)   (by omega) (Nat.zero_le _) ?_
  refine zeP rfl rfl ?_
  refine zeCF rfl rfl rfl rfl rfl rfl (c_areAllDone (m := (zm2 m 137 0 (Int32.ofNat 0))) (W := W)  hW.N hW.N4) (by omega) ?_
  dsimp only [Option.toList, List.cons_append, List.nil_append]
  refine zeB1 rfl rfl (fun h1 => ?_) (fun h1 => ?_)
  · refine zeK (v := -1) rfl rfl rfl ?_
    exact zeRe rfl rfl rfl rfl (by simp only [q_serial, h1, cond_true, cond_false] <;> rfl) (by simp only [q_serial, h1, cond_true, cond_false] <;> rfl)
  · refine zeP rfl rfl ?_
    refine zeKn (c := 10) rfl rfl rfl ?_
    refine zeB2 rfl rfl (fun h2 => ?_) (fun h2 => ?_)
    · refine zeK (v := -1) rfl rfl rfl ?_
      exact zeRe rfl rfl rfl rfl (by simp only [q_serial, h1, h2, cond_true, cond_false] <;> rfl) (by simp only [q_serial, h1, h2, cond_true, cond_false] <;> rfl)
    · refine zeP rfl rfl ?_
      refine zeKn (c := 0) rfl rfl rfl ?_
      refine zeP rfl rfl ?_
      refine zeKn (c := 1) rfl rfl rfl ?_
      refine zeP rfl rfl ?_
      refine zeCF rfl rfl rfl rfl rfl rfl (c_in (m := (zm2 m 137 0 (Int32.ofNat 0))) (W := W) (v := v) (lo := (Int32.ofNat 0)) (hi := ((Int32.ofNat (l_allParts W ((nv W 9)) 0 0).1) - (Int32.ofNat 1))) ) (by omega) ?_
      dsimp only [Option.toList, List.cons_append, List.nil_append]
      refine zeB1 rfl rfl (fun h3 => ?_) (fun h3 => ?_)
      · have cv : v = Int32.ofNat v.toNatClampNeg ∧ v.toNatClampNeg < (l_allParts W (nv W 9) 0 0).1 := (in_n (by have := (allParts_le hW (nv W 9) 0 0 (by omega) (by omega)); omega) h3)
        refine zeKn (c := 0) rfl rfl rfl ?_
        refine zeP rfl rfl ?_
        refine w_firstL (k := v) (a := (l_allParts W ((nv W 9)) 0 0).1) (W := W) (by omega)  81 (0)  ((zm2 m 137 0 (Int32.ofNat 0))) (by omega)  ?_
        refine zeP rfl rfl ?_
        refine zeKn (c := 0) rfl rfl rfl ?_
        refine zeP rfl rfl ?_
        refine zeCF rfl rfl rfl rfl rfl rfl ((c_orders (W := W) (all := (l_allParts W ((nv W 9)) 0 0).1) hW (zgt_le (by have := (allParts_le hW (nv W 9) 0 0 (by omega) (by omega)); omega) (by omega) h2) ((l_allParts W ((nv W 9)) 0 0).1) 0 0 ((l_firstL W 81 0 ((zm2 m 137 0 (Int32.ofNat 0)))).2) (by omega) rfl firstL_O firstL_L).up (h' := 16) (by have := (zgt_le (by have := (allParts_le hW (nv W 9) 0 0 (by omega) (by omega)); omega) (by omega) h2); omega)) (by omega) ?_
        dsimp only [Option.toList, List.cons_append, List.nil_append]
        refine zeB1 rfl rfl (fun h4 => ?_) (fun h4 => ?_)
        · refine zeK (v := -1) rfl rfl rfl ?_
          exact zeRe rfl rfl rfl rfl (by simp only [q_serial, h1, h2, h3, h4, cond_true, cond_false] <;> rfl) (by simp only [q_serial, h1, h2, h3, h4, cond_true, cond_false] <;> rfl)
        · refine zeP rfl rfl ?_
          refine zeGR rfl rfl zS137 rfl rfl ?_
          refine zeKn (c := v.toNatClampNeg) rfl rfl cv.1 ?_
          refine zeQL (a := 144) (k := (v.toNatClampNeg)) rfl rfl (by decide) rfl rfl (by have := cv.2; have := (zgt_le (by have := (allParts_le hW (nv W 9) 0 0 (by omega) (by omega)); omega) (by omega) h2); omega) ?_
          refine zeP rfl rfl ?_
          exact zeRe rfl rfl rfl rfl (by simp only [q_serial, h1, h2, h3, h4, cond_true, cond_false] <;> rfl) (by simp only [q_serial, h1, h2, h3, h4, cond_true, cond_false] <;> rfl)
      · refine zeK (v := -1) rfl rfl rfl ?_
        exact zeRe rfl rfl rfl rfl (by simp only [q_serial, h1, h2, h3, cond_true, cond_false] <;> rfl) (by simp only [q_serial, h1, h2, h3, cond_true, cond_false] <;> rfl)
theorem c_serial {σ : Nat → Nat × (Nat → Int32)} {yy : (Nat → Nat → Int64) × Bool × Nat × Nat} {m : Nat → Nat → Int32} {W : Nat → Int32} {v : Int32} (hW : WG W) : zF σ 17 1906 [.ref 137, .int v] (zS1, zrow m 138 W, yy) (.inl (some (.int (q_serial m W v).1))) (zS1, zrow ((q_serial m W v).2) 138 W, yy) := by
  intro d hd
  obtain ⟨d, rfl⟩ : ∃ k, d = k + 1 := ⟨d - 1, by omega⟩
  exact p_serial hd hW
/-- serial writes its own rows and the code of a throw -/
theorem serial_fr {m : Nat → Nat → Int32} {W : Nat → Int32} {v : Int32} (hW : WG W) : ∀ i, i ≠ 137 → i ≠ 143 → i ≠ 144 → (q_serial m W v).2 i = m i := by
  intro i h1 h2 h3
  have e0 : zm2 m 137 0 (Int32.ofNat 0) i = m i := zm2_i _ _ h1
  unfold q_serial
  refine cnd4 (fun X : Int32 × (Nat → Nat → Int32) => X.2 i = m i) (fun _ => e0) (fun _ => cnd4 (fun X : Int32 × (Nat → Nat → Int32) => X.2 i = m i) (fun _ => e0) (fun _ => cnd4 (fun X : Int32 × (Nat → Nat → Int32) => X.2 i = m i) (fun _ => ?_) (fun _ => e0)))
  have key : (q_orders W (l_allParts W (nv W 9) 0 0).1 (l_allParts W (nv W 9) 0 0).1 0 (l_firstL W 81 0 (zm2 m 137 0 (Int32.ofNat 0))).2).2 i = m i := by
    refine ((orders_ok hW _ 0 0 _ (by omega) rfl firstL_O firstL_L).2.1 i h2 h3).trans ?_
    exact ((firstL_v (W := W) 81 0 _ rfl).1 i h2).trans e0
  exact cnd4 (fun X : Int32 × (Nat → Nat → Int32) => X.2 i = m i) (fun _ => key) (fun _ => key)
theorem serial_137 {m : Nat → Nat → Int32} {W : Nat → Int32} {v : Int32} (hW : WG W) : ∀ k, k ≠ 0 → (q_serial m W v).2 137 k = m 137 k := by
  intro k hk
  have e0 : zm2 m 137 0 (Int32.ofNat 0) 137 k = m 137 k := zm2_k _ _ hk
  unfold q_serial
  refine cnd4 (fun X : Int32 × (Nat → Nat → Int32) => X.2 137 k = m 137 k) (fun _ => e0) (fun _ => cnd4 (fun X : Int32 × (Nat → Nat → Int32) => X.2 137 k = m 137 k) (fun _ => e0) (fun _ => cnd4 (fun X : Int32 × (Nat → Nat → Int32) => X.2 137 k = m 137 k) (fun _ => ?_) (fun _ => e0)))
  have key : (q_orders W (l_allParts W (nv W 9) 0 0).1 (l_allParts W (nv W 9) 0 0).1 0 (l_firstL W 81 0 (zm2 m 137 0 (Int32.ofNat 0))).2).2 137 k = m 137 k := by
    rw [(orders_ok hW _ 0 0 _ (by omega) rfl firstL_O firstL_L).2.1 137 (by decide) (by decide), (firstL_v (W := W) 81 0 _ rfl).1 137 (by decide)]
    exact e0
  exact cnd4 (fun X : Int32 × (Nat → Nat → Int32) => X.2 137 k = m 137 k) (fun _ => key) (fun _ => key)
end
