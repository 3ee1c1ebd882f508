noncomputable def l_feed (a : Int32) (b : Int32) (c : Int32) (e : Int32) (f : Int32) (T : Nat) : Nat → Nat → (Nat → Nat → Int32) → Int32 × (Nat → Nat → Int32)
  | 0, k, m => ((Int32.ofNat (T + 20)), (zm2 m 137 7 (Int32.ofNat (T + 20))))
  | n + 1, k, m => (l_feed a b c e f T n ((k + 1)) ((zm2 m 141 ((T + k)) (vp_nar .byte ((((m 142 ((k / 4))) >>> ((Int32.ofNat (24 - (8 * (k % 4)))) &&& 31))).toInt8.toInt32)))))
theorem w_feed {σ : Nat → Nat × (Nat → Int32)} {yy : (Nat → Nat → Int64) × Bool × Nat × Nat} {W : Nat → Int32} {a : Int32} {b : Int32} {c : Int32} {e : Int32} {f : Int32} {T : Nat} {d : Nat} (hd : 1 ≤ d + 1) (hT4 : T + 20 ≤ 400) : ∀ (n : Nat) (k : Nat) (m : Nat → Nat → Int32), k + n = 20 → m 137 7 = Int32.ofNat T → zEv σ (d + 1) 1841 60 [some (.ref 137), some (.int a), some (.int b), some (.int c), some (.int e), some (.int f), some (.int (Int32.ofNat k))] [] (zS1, zrow m 138 W, yy) (.inl (some (.int (l_feed a b c e f T n k m).1))) (zS1, zrow ((l_feed a b c e f T n k m).2) 138 W, yy) := by
  intro n
  induction n with
  | zero =>
    intro k m hk hT
    refine zeP rfl rfl ?_
    refine zeKn (c := 20) rfl rfl rfl ?_
    refine zeT2 rfl rfl (zcge (by omega) (by omega) (by omega)) ?_
    refine zeP rfl rfl ?_
    refine zeP rfl rfl ?_
    refine zeFI rfl rfl rfl rfl ?_
    rw [hT]
    refine zeKn (c := 20) rfl rfl rfl ?_
    refine zeAdd rfl ?_
    refine zeFP rfl rfl rfl ?_
    refine zeP rfl rfl ?_
    refine zeFI rfl rfl rfl rfl ?_
    rw [zm2_a]
    exact zeRe rfl rfl rfl rfl (by rfl) (by rfl)
  | succ n ih =>
    intro k m hk hT
    refine zeP rfl rfl ?_
    refine zeKn (c := 20) rfl rfl rfl ?_
    refine zeF2 rfl rfl (zcge_f (by omega) (by omega) (by omega)) ?_
    refine zeP rfl rfl ?_
    refine zeGR rfl rfl zS137 rfl rfl ?_
    refine zeP rfl rfl ?_
    refine zeFI rfl rfl rfl rfl ?_
    rw [hT]
    refine zeP rfl rfl ?_
    refine zeAdd rfl ?_
    refine zeP rfl rfl ?_
    refine zeGR rfl rfl zS137 rfl rfl ?_
    refine zeP rfl rfl ?_
    refine zeKn (c := 4) rfl rfl rfl ?_
    refine zeDiv rfl (by decide) ?_
    rw [zdiv4 (by omega)]
    refine zeQL (a := 142) (k := (k / 4)) rfl rfl (by decide) rfl rfl (by omega) ?_
    refine zeKn (c := 24) rfl rfl rfl ?_
    refine zeKn (c := 8) rfl rfl rfl ?_
    refine zeP rfl rfl ?_
    refine zeKn (c := 4) rfl rfl rfl ?_
    refine zeRem rfl (by decide) ?_
    rw [zrem4 (by omega)]
    refine zeMul rfl ?_
    refine zeSub rfl (by omega) ?_
    refine zeP rfl rfl ?_
    refine zeP rfl rfl ?_
    refine zeQBS (a := 141) (k := (T + k)) rfl (by decide) rfl rfl (by omega) ?_
    refine zeInc rfl rfl ?_
    refine zeP rfl rfl ?_
    simp only [l_feed, cond_true, cond_false]
    exact ih ((k + 1))  ((zm2 m 141 ((T + k)) (vp_nar .byte ((((m 142 ((k / 4))) >>> ((Int32.ofNat (24 - (8 * (k % 4)))) &&& 31))).toInt8.toInt32)))) (by omega) (by rw [zm2_i _ _ (by decide)]; exact hT)
theorem tle_t {a b : Nat} (ha : a ≤ 100000) (hb : b ≤ 100000) (h : zc2 .le (Int32.ofNat a) (Int32.ofNat b) = true) : a ≤ b := by
  have h1 := of_decide_eq_true h
  rw [Int32.le_iff_toInt_le, zoN (by omega), zoN (by omega)] at h1
  omega
noncomputable def q_feed (m : Nat → Nat → Int32) (a : Int32) (b : Int32) (c : Int32) (e : Int32) (f : Int32) (T : Nat) : Int32 × (Nat → Nat → Int32) := (bif zc2 .le (Int32.ofNat (T + 20)) (Int32.ofNat 400) then (l_feed a b c e f T 20 0 ((zm2 ((zm2 ((zm2 ((zm2 ((zm2 ((zm2 m 137 0 (Int32.ofNat 0))) 142 0 a)) 142 1 b)) 142 2 c)) 142 3 e)) 142 4 f))) else ((-1), (zm2 m 137 0 (Int32.ofNat 0))))
theorem p_feed {σ : Nat → Nat × (Nat → Int32)} {yy : (Nat → Nat → Int64) × Bool × Nat × Nat} {m : Nat → Nat → Int32} {W : Nat → Int32} {a : Int32} {b : Int32} {c : Int32} {e : Int32} {f : Int32} {T : Nat} {d : Nat} (hd : 1 ≤ d + 1) (hT : m 137 7 = Int32.ofNat T) (hT2 : T ≤ 400) : zEv σ (d + 1) 1841 0 [some (.ref 137), some (.int a), some (.int b), some (.int c), some (.int e), some (.int f), none] [] (zS1, zrow m 138 W, yy) (.inl (some (.int (q_feed m a b c e f T).1))) (zS1, zrow ((q_feed m a b c e f T).2) 138 W, yy) := by
  refine zeP rfl rfl ?_
  refine zeKn (c := 0) rfl rfl rfl ?_
  refine zeFP rfl rfl rfl ?_
  refine zeP rfl rfl ?_
  refine zeFI rfl rfl rfl rfl ?_
  rw [(show zm2 m 137 0 (Int32.ofNat 0) 137 7 = Int32.ofNat T by rw [zm2_k _ _ (by decide)]; exact hT)]
  refine zeKn (c := 20) rfl rfl rfl ?_
  refine zeAdd rfl ?_
  refine zeKn (c := 400) rfl rfl rfl ?_
  refine zeB2 rfl rfl (fun h1 => ?_) (fun h1 => ?_)
  · refine zeP rfl rfl ?_
    refine zeGR rfl rfl zS137 rfl rfl ?_
    refine zeKn (c := 0) rfl rfl rfl ?_
    refine zeP rfl rfl ?_
    refine zeQS (a := 142) (k := 0) rfl (by decide) rfl rfl (by omega) ?_
    refine zeP rfl rfl ?_
    refine zeGR rfl rfl zS137 rfl rfl ?_
    refine zeKn (c := 1) rfl rfl rfl ?_
    refine zeP rfl rfl ?_
    refine zeQS (a := 142) (k := 1) rfl (by decide) rfl rfl (by omega) ?_
    refine zeP rfl rfl ?_
    refine zeGR rfl rfl zS137 rfl rfl ?_
    refine zeKn (c := 2) rfl rfl rfl ?_
    refine zeP rfl rfl ?_
    refine zeQS (a := 142) (k := 2) rfl (by decide) rfl rfl (by omega) ?_
    refine zeP rfl rfl ?_
    refine zeGR rfl rfl zS137 rfl rfl ?_
    refine zeKn (c := 3) rfl rfl rfl ?_
    refine zeP rfl rfl ?_
    refine zeQS (a := 142) (k := 3) rfl (by decide) rfl rfl (by omega) ?_
    refine zeP rfl rfl ?_
    refine zeGR rfl rfl zS137 rfl rfl ?_
    refine zeKn (c := 4) rfl rfl rfl ?_
    refine zeP rfl rfl ?_
    refine zeQS (a := 142) (k := 4) rfl (by decide) rfl rfl (by omega) ?_
    refine zeKn (c := 0) rfl rfl rfl ?_
    refine zeP rfl rfl ?_
    simp only [q_feed, h1, cond_true, cond_false]
    exact w_feed (a := a) (b := b) (c := c) (e := e) (f := f) (T := T) (W := W) (by omega) (by have := tle_t (by omega) (by omega) h1; omega) 20 (0)  ((zm2 ((zm2 ((zm2 ((zm2 ((zm2 ((zm2 m 137 0 (Int32.ofNat 0))) 142 0 a)) 142 1 b)) 142 2 c)) 142 3 e)) 142 4 f)) (by omega) (by rw [zm2_i _ _ (by decide), zm2_i _ _ (by decide), zm2_i _ _ (by decide), zm2_i _ _ (by decide), zm2_i _ _ (by decide), zm2_k _ _ (by decide)]; exact hT)
  · refine zeK (v := -1) rfl rfl rfl ?_
    exact zeRe rfl rfl rfl rfl (by simp only [q_feed, h1, cond_true, cond_false] <;> rfl) (by simp only [q_feed, h1, cond_true, cond_false] <;> rfl)
theorem c_feed {σ : Nat → Nat × (Nat → Int32)} {yy : (Nat → Nat → Int64) × Bool × Nat × Nat} {m : Nat → Nat → Int32} {W : Nat → Int32} {a : Int32} {b : Int32} {c : Int32} {e : Int32} {f : Int32} {T : Nat} (hT : m 137 7 = Int32.ofNat T) (hT2 : T ≤ 400) : zF σ 1 1841 [.ref 137, .int a, .int b, .int c, .int e, .int f] (zS1, zrow m 138 W, yy) (.inl (some (.int (q_feed m a b c e f T).1))) (zS1, zrow ((q_feed m a b c e f T).2) 138 W, yy) := by
  intro d hd
  obtain ⟨d, rfl⟩ : ∃ k, d = k + 1 := ⟨d - 1, by omega⟩
  exact p_feed hd hT hT2
/-- readText at the machine's memory -/
theorem c_readTextM {σ : Nat → Nat × (Nat → Int32)} {yy : (Nat → Nat → Int64) × Bool × Nat × Nat} {m : Nat → Nat → Int32} {W : Nat → Int32} {b : Nat} (hG : PG m) (h8 : m 137 8 = Int32.ofNat 0) (h10 : m 137 10 = Int32.ofNat b) (hW : WG W) : zF σ 8 1861 [.ref 137] (zS1, zrow m 138 W, yy) (.inl (some (.int (q_readText m W 0).1))) (zS1, zrow (TP m (q_readText m W 0).2.2.1 (q_readText m W 0).2.2.2) 138 (q_readText m W 0).2.1, yy) := by
  have h := c_readText (σ := σ) (yy := yy) (m := m) (W := W) (p := 0) (b := b) hG (Nat.zero_le _) hW
  rw [TP_self h8 h10] at h
  exact h
/-- the memory as the reading of a text begins -/
noncomputable def mM (m : Nat → Nat → Int32) (W : Nat → Int32) : Nat → Nat → Int32 := (zrow (zm2 (zm2 (zm2 (zm2 m 137 0 (Int32.ofNat 0)) 137 9 (zm2 m 137 0 (Int32.ofNat 0) 137 7)) 137 7 (Int32.ofNat 0)) 137 8 (Int32.ofNat 0)) 140 (crow W (zm2 (zm2 (zm2 (zm2 m 137 0 (Int32.ofNat 0)) 137 9 (zm2 m 137 0 (Int32.ofNat 0) 137 7)) 137 7 (Int32.ofNat 0)) 137 8 (Int32.ofNat 0) 140)))
theorem mM_9 {m : Nat → Nat → Int32} {W : Nat → Int32} {T : Nat} (hT : m 137 7 = Int32.ofNat T) : mM m W 137 9 = Int32.ofNat T := hT
theorem mM_G {m : Nat → Nat → Int32} {W : Nat → Int32} {T : Nat} (hT : m 137 7 = Int32.ofNat T) (h : T ≤ 400) : PG (mM m W) ∧ pe (mM m W) = T := by
  have e : pe (mM m W) = T := by
    unfold pe
    rw [mM_9 hT]
    exact Int32.toNatClampNeg_ofNat_of_lt (by omega)
  refine ⟨⟨?_, by omega⟩, e⟩
  rw [e]
  exact hT
noncomputable def q_machine38 (m : Nat → Nat → Int32) (W : Nat → Int32) (is : Int32) : Int32 × (Nat → Int32) × (Nat → Nat → Int32) := (bif zc1 .eq is then (bif zc1 .ne is then (bif zc2 .ne (W 10) (Int32.ofNat 12) then ((((upd W 10 ((W 10) + (Int32.ofNat 1)))) 10), (upd W 10 ((W 10) + (Int32.ofNat 1))), (zm2 m 137 11 (m 137 10))) else ((Int32.ofNat 0), (crow (((q_thr1 ((zm2 m 137 11 (m 137 10))) 2).2) 140) W), (q_thr1 ((zm2 m 137 11 (m 137 10))) 2).2)) else ((Int32.ofNat 0), (crow (((q_thr1 ((zm2 m 137 11 (m 137 10))) 1).2) 140) W), (q_thr1 ((zm2 m 137 11 (m 137 10))) 1).2)) else (bif zc1 .ne is then (bif zc2 .ne (W 10) (Int32.ofNat 12) then ((((upd W 10 ((W 10) + (Int32.ofNat 1)))) 10), (upd W 10 ((W 10) + (Int32.ofNat 1))), (zm2 m 137 11 (-1))) else ((Int32.ofNat 0), (crow (((q_thr1 ((zm2 m 137 11 (-1))) 2).2) 140) W), (q_thr1 ((zm2 m 137 11 (-1))) 2).2)) else ((Int32.ofNat 0), (crow (((q_thr1 ((zm2 m 137 11 (-1))) 1).2) 140) W), (q_thr1 ((zm2 m 137 11 (-1))) 1).2)))
theorem p_machine38 {σ : Nat → Nat × (Nat → Int32)} {yy : (Nat → Nat → Int64) × Bool × Nat × Nat} {m : Nat → Nat → Int32} {W : Nat → Int32} {is : Int32} {d : Nat} (hd : 2 ≤ d + 1) : zEv σ (d + 1) 1862 38 [some (.ref 137), none] [.int is] (zS1, zrow m 138 W, yy) (.inl (some (.int (q_machine38 m W is).1))) (zS1, zrow ((q_machine38 m W is).2.2) 138 ((q_machine38 m W is).2.1), yy) := by
  refine zeP rfl rfl ?_
  refine zeP rfl rfl ?_
  refine zeP rfl rfl ?_
  refine zeB1 rfl rfl (fun h1 => ?_) (fun h1 => ?_)
  · refine zeP rfl rfl ?_
    refine zeFI rfl rfl rfl rfl ?_
    refine zeFP rfl rfl rfl ?_
    refine zeP rfl rfl ?_
    refine zeP rfl rfl ?_
    refine zeB1 rfl rfl (fun h2 => ?_) (fun h2 => ?_)
    · refine zeKn (c := 0) rfl rfl rfl ?_
      refine zeKn (c := 1) rfl rfl rfl ?_
      refine zeCF rfl rfl rfl rfl rfl rfl (c_thr0 (m := (zm2 m 137 11 (m 137 10))) (W := W) (c := 1) ) (by omega) ?_
      dsimp only [Option.toList, List.cons_append, List.nil_append]
      refine zeF1 rfl rfl (show zc1 .ne (Int32.ofNat 0) = false by decide) ?_
      refine zeP rfl rfl ?_
      refine zeP rfl rfl ?_
      refine zeGR rfl rfl zS137 rfl rfl ?_
      refine zeKn (c := 10) rfl rfl rfl ?_
      refine zeWL (k := 10) rfl (by omega) ?_
      refine zeKn (c := 12) rfl rfl rfl ?_
      refine zeB2 rfl rfl (fun h3 => ?_) (fun h3 => ?_)
      · refine zeKn (c := 0) rfl rfl rfl ?_
        refine zeKn (c := 2) rfl rfl rfl ?_
        refine zeCF rfl rfl rfl rfl rfl rfl (c_thr0 (m := (zm2 m 137 11 (m 137 10))) (W := W) (c := 2) ) (by omega) ?_
        dsimp only [Option.toList, List.cons_append, List.nil_append]
        refine zeT1 rfl rfl (show zc1 .eq (Int32.ofNat 0) = true by decide) ?_
        refine zeP rfl rfl ?_
        refine zeGR rfl rfl zS137 rfl rfl ?_
        refine zeKn (c := 10) rfl rfl rfl ?_
        refine zeP rfl rfl ?_
        refine zeWL (k := 10) rfl (by omega) ?_
        refine zeKn (c := 1) rfl rfl rfl ?_
        refine zeP rfl rfl ?_
        refine zeWS (k := 10) rfl (by omega) ?_
        refine zeP rfl rfl ?_
        refine zeGR rfl rfl zS137 rfl rfl ?_
        refine zeKn (c := 10) rfl rfl rfl ?_
        refine zeWL (k := 10) rfl (by omega) ?_
        exact zeRe rfl rfl rfl rfl (by simp only [q_machine38, h1, h2, h3, cond_true, cond_false] <;> rfl) (by simp only [q_machine38, h1, h2, h3, cond_true, cond_false] <;> rfl)
      · refine zeKn (c := 1) rfl rfl rfl ?_
        refine zeP rfl rfl ?_
        refine zeKn (c := 2) rfl rfl rfl ?_
        refine zeCF rfl rfl rfl rfl rfl rfl (c_thr1 (m := (zm2 m 137 11 (m 137 10))) (W := W) (c := 2) ) (by omega) ?_
        dsimp only [Option.toList, List.cons_append, List.nil_append]
        refine zeF1 rfl rfl (show zc1 .eq (Int32.ofNat 1) = false by decide) ?_
        refine zeP rfl rfl ?_
        refine zeGR rfl rfl zS137 rfl rfl ?_
        refine zeP rfl rfl ?_
        refine zeGR rfl rfl zS137 rfl rfl ?_
        refine zeCF rfl rfl rfl rfl rfl rfl (c_cpB (m := (q_thr1 ((zm2 m 137 11 (m 137 10))) 2).2) (W := W) (b := 140) (by decide) rfl rfl) (by omega) ?_
        dsimp only [Option.toList, List.cons_append, List.nil_append]
        refine zeKn (c := 0) rfl rfl rfl ?_
        exact zeRe rfl rfl rfl rfl (by simp only [q_machine38, h1, h2, h3, cond_true, cond_false] <;> rfl) (by simp only [q_machine38, h1, h2, h3, cond_true, cond_false] <;> rfl)
    · refine zeKn (c := 1) rfl rfl rfl ?_
      refine zeP rfl rfl ?_
      refine zeKn (c := 1) rfl rfl rfl ?_
      refine zeCF rfl rfl rfl rfl rfl rfl (c_thr1 (m := (zm2 m 137 11 (m 137 10))) (W := W) (c := 1) ) (by omega) ?_
      dsimp only [Option.toList, List.cons_append, List.nil_append]
      refine zeT1 rfl rfl (show zc1 .ne (Int32.ofNat 1) = true by decide) ?_
      refine zeP rfl rfl ?_
      refine zeGR rfl rfl zS137 rfl rfl ?_
      refine zeP rfl rfl ?_
      refine zeGR rfl rfl zS137 rfl rfl ?_
      refine zeCF rfl rfl rfl rfl rfl rfl (c_cpB (m := (q_thr1 ((zm2 m 137 11 (m 137 10))) 1).2) (W := W) (b := 140) (by decide) rfl rfl) (by omega) ?_
      dsimp only [Option.toList, List.cons_append, List.nil_append]
      refine zeKn (c := 0) rfl rfl rfl ?_
      exact zeRe rfl rfl rfl rfl (by simp only [q_machine38, h1, h2, cond_true, cond_false] <;> rfl) (by simp only [q_machine38, h1, h2, cond_true, cond_false] <;> rfl)
  · refine zeK (v := -1) rfl rfl rfl ?_
    refine zeP rfl rfl ?_
    refine zeFP rfl rfl rfl ?_
    refine zeP rfl rfl ?_
    refine zeP rfl rfl ?_
    refine zeB1 rfl rfl (fun h4 => ?_) (fun h4 => ?_)
    · refine zeKn (c := 0) rfl rfl rfl ?_
      refine zeKn (c := 1) rfl rfl rfl ?_
      refine zeCF rfl rfl rfl rfl rfl rfl (c_thr0 (m := (zm2 m 137 11 (-1))) (W := W) (c := 1) ) (by omega) ?_
      dsimp only [Option.toList, List.cons_append, List.nil_append]
      refine zeF1 rfl rfl (show zc1 .ne (Int32.ofNat 0) = false by decide) ?_
      refine zeP rfl rfl ?_
      refine zeP rfl rfl ?_
      refine zeGR rfl rfl zS137 rfl rfl ?_
      refine zeKn (c := 10) rfl rfl rfl ?_
      refine zeWL (k := 10) rfl (by omega) ?_
      refine zeKn (c := 12) rfl rfl rfl ?_
      refine zeB2 rfl rfl (fun h5 => ?_) (fun h5 => ?_)
      · refine zeKn (c := 0) rfl rfl rfl ?_
        refine zeKn (c := 2) rfl rfl rfl ?_
        refine zeCF rfl rfl rfl rfl rfl rfl (c_thr0 (m := (zm2 m 137 11 (-1))) (W := W) (c := 2) ) (by omega) ?_
        dsimp only [Option.toList, List.cons_append, List.nil_append]
        refine zeT1 rfl rfl (show zc1 .eq (Int32.ofNat 0) = true by decide) ?_
        refine zeP rfl rfl ?_
        refine zeGR rfl rfl zS137 rfl rfl ?_
        refine zeKn (c := 10) rfl rfl rfl ?_
        refine zeP rfl rfl ?_
        refine zeWL (k := 10) rfl (by omega) ?_
        refine zeKn (c := 1) rfl rfl rfl ?_
        refine zeP rfl rfl ?_
        refine zeWS (k := 10) rfl (by omega) ?_
        refine zeP rfl rfl ?_
        refine zeGR rfl rfl zS137 rfl rfl ?_
        refine zeKn (c := 10) rfl rfl rfl ?_
        refine zeWL (k := 10) rfl (by omega) ?_
        exact zeRe rfl rfl rfl rfl (by simp only [q_machine38, h1, h4, h5, cond_true, cond_false] <;> rfl) (by simp only [q_machine38, h1, h4, h5, cond_true, cond_false] <;> rfl)
      · refine zeKn (c := 1) rfl rfl rfl ?_
        refine zeP rfl rfl ?_
        refine zeKn (c := 2) rfl rfl rfl ?_
        refine zeCF rfl rfl rfl rfl rfl rfl (c_thr1 (m := (zm2 m 137 11 (-1))) (W := W) (c := 2) ) (by omega) ?_
        dsimp only [Option.toList, List.cons_append, List.nil_append]
        refine zeF1 rfl rfl (show zc1 .eq (Int32.ofNat 1) = false by decide) ?_
        refine zeP rfl rfl ?_
        refine zeGR rfl rfl zS137 rfl rfl ?_
        refine zeP rfl rfl ?_
        refine zeGR rfl rfl zS137 rfl rfl ?_
        refine zeCF rfl rfl rfl rfl rfl rfl (c_cpB (m := (q_thr1 ((zm2 m 137 11 (-1))) 2).2) (W := W) (b := 140) (by decide) rfl rfl) (by omega) ?_
        dsimp only [Option.toList, List.cons_append, List.nil_append]
        refine zeKn (c := 0) rfl rfl rfl ?_
        exact zeRe rfl rfl rfl rfl (by simp only [q_machine38, h1, h4, h5, cond_true, cond_false] <;> rfl) (by simp only [q_machine38, h1, h4, h5, cond_true, cond_false] <;> rfl)
    · refine zeKn (c := 1) rfl rfl rfl ?_
      refine zeP rfl rfl ?_
      refine zeKn (c := 1) rfl rfl rfl ?_
      refine zeCF rfl rfl rfl rfl rfl rfl (c_thr1 (m := (zm2 m 137 11 (-1))) (W := W) (c := 1) ) (by omega) ?_
      dsimp only [Option.toList, List.cons_append, List.nil_append]
      refine zeT1 rfl rfl (show zc1 .ne (Int32.ofNat 1) = true by decide) ?_
      refine zeP rfl rfl ?_
      refine zeGR rfl rfl zS137 rfl rfl ?_
      refine zeP rfl rfl ?_
      refine zeGR rfl rfl zS137 rfl rfl ?_
      refine zeCF rfl rfl rfl rfl rfl rfl (c_cpB (m := (q_thr1 ((zm2 m 137 11 (-1))) 1).2) (W := W) (b := 140) (by decide) rfl rfl) (by omega) ?_
      dsimp only [Option.toList, List.cons_append, List.nil_append]
      refine zeKn (c := 0) rfl rfl rfl ?_
      exact zeRe rfl rfl rfl rfl (by simp only [q_machine38, h1, h4, cond_true, cond_false] <;> rfl) (by simp only [q_machine38, h1, h4, cond_true, cond_false] <;> rfl)
noncomputable def q_machine (m : Nat → Nat → Int32) (W : Nat → Int32) : Int32 × (Nat → Int32) × (Nat → Nat → Int32) := (q_machine38 (TP (mM m W) (q_readText (mM m W) W 0).2.2.1 (q_readText (mM m W) W 0).2.2.2) (q_readText (mM m W) W 0).2.1 (q_readText (mM m W) W 0).1)
theorem p_machine {σ : Nat → Nat × (Nat → Int32)} {yy : (Nat → Nat → Int64) × Bool × Nat × Nat} {m : Nat → Nat → Int32} {W : Nat → Int32} {T : Nat} {b : Nat} {d : Nat} (hd : 9 ≤ d + 1) (hT : m 137 7 = Int32.ofNat T) (hT2 : T ≤ 400) (h10 : m 137 10 = Int32.ofNat b) (hW : WG W) : zEv σ (d + 1) 1862 0 [some (.ref 137), none] [] (zS1, zrow m 138 W, yy) (.inl (some (.int (q_machine m W).1))) (zS1, zrow ((q_machine m W).2.2) 138 ((q_machine m W).2.1), yy) := by
  have hG2 := (mM_G (W := W) hT hT2).1
  have h82 : mM m W 137 8 = Int32.ofNat 0 := rfl
  have h102 : mM m W 137 10 = Int32.ofNat b := h10
  refine zeP rfl rfl ?_
  refine zeKn (c := 0) rfl rfl rfl ?_
  refine zeFP rfl rfl rfl ?_
  refine zeP rfl rfl ?_
  refine zeP rfl rfl ?_
  refine zeFI rfl rfl rfl rfl ?_
  refine zeFP rfl rfl rfl ?_
  refine zeP rfl rfl ?_
  refine zeKn (c := 0) rfl rfl rfl ?_
  refine zeFP rfl rfl rfl ?_
  refine zeP rfl rfl ?_
  refine zeKn (c := 0) rfl rfl rfl ?_
  refine zeFP rfl rfl rfl ?_
  refine zeP rfl rfl ?_
  refine zeGR rfl rfl zS137 rfl rfl ?_
  refine zeP rfl rfl ?_
  refine zeGR rfl rfl zS137 rfl rfl ?_
  refine zeCF rfl rfl rfl rfl rfl rfl (c_cpF (m := (zm2 ((zm2 ((zm2 ((zm2 m 137 0 (Int32.ofNat 0))) 137 9 (((zm2 m 137 0 (Int32.ofNat 0))) 137 7))) 137 7 (Int32.ofNat 0))) 137 8 (Int32.ofNat 0))) (W := W) (b := 140) (by decide) rfl) (by omega) ?_
  dsimp only [Option.toList, List.cons_append, List.nil_append]
  refine zeP rfl rfl ?_
  refine zeCF rfl rfl rfl rfl rfl rfl (c_readTextM (m := (zrow ((zm2 ((zm2 ((zm2 ((zm2 m 137 0 (Int32.ofNat 0))) 137 9 (((zm2 m 137 0 (Int32.ofNat 0))) 137 7))) 137 7 (Int32.ofNat 0))) 137 8 (Int32.ofNat 0))) 140 (crow W (((zm2 ((zm2 ((zm2 ((zm2 m 137 0 (Int32.ofNat 0))) 137 9 (((zm2 m 137 0 (Int32.ofNat 0))) 137 7))) 137 7 (Int32.ofNat 0))) 137 8 (Int32.ofNat 0))) 140)))) (W := W) (b := b) hG2 h82 h102 hW) (by omega) ?_
  dsimp only [Option.toList, List.cons_append, List.nil_append]
  simp only [q_machine, cond_true, cond_false]
  exact p_machine38 (is := (q_readText ((zrow ((zm2 ((zm2 ((zm2 ((zm2 m 137 0 (Int32.ofNat 0))) 137 9 (((zm2 m 137 0 (Int32.ofNat 0))) 137 7))) 137 7 (Int32.ofNat 0))) 137 8 (Int32.ofNat 0))) 140 (crow W (((zm2 ((zm2 ((zm2 ((zm2 m 137 0 (Int32.ofNat 0))) 137 9 (((zm2 m 137 0 (Int32.ofNat 0))) 137 7))) 137 7 (Int32.ofNat 0))) 137 8 (Int32.ofNat 0))) 140)))) W 0).1) (W := (q_readText ((zrow ((zm2 ((zm2 ((zm2 ((zm2 m 137 0 (Int32.ofNat 0))) 137 9 (((zm2 m 137 0 (Int32.ofNat 0))) 137 7))) 137 7 (Int32.ofNat 0))) 137 8 (Int32.ofNat 0))) 140 (crow W (((zm2 ((zm2 ((zm2 ((zm2 m 137 0 (Int32.ofNat 0))) 137 9 (((zm2 m 137 0 (Int32.ofNat 0))) 137 7))) 137 7 (Int32.ofNat 0))) 137 8 (Int32.ofNat 0))) 140)))) W 0).2.1) (m := (TP ((zrow ((zm2 ((zm2 ((zm2 ((zm2 m 137 0 (Int32.ofNat 0))) 137 9 (((zm2 m 137 0 (Int32.ofNat 0))) 137 7))) 137 7 (Int32.ofNat 0))) 137 8 (Int32.ofNat 0))) 140 (crow W (((zm2 ((zm2 ((zm2 ((zm2 m 137 0 (Int32.ofNat 0))) 137 9 (((zm2 m 137 0 (Int32.ofNat 0))) 137 7))) 137 7 (Int32.ofNat 0))) 137 8 (Int32.ofNat 0))) 140)))) (q_readText ((zrow ((zm2 ((zm2 ((zm2 ((zm2 m 137 0 (Int32.ofNat 0))) 137 9 (((zm2 m 137 0 (Int32.ofNat 0))) 137 7))) 137 7 (Int32.ofNat 0))) 137 8 (Int32.ofNat 0))) 140 (crow W (((zm2 ((zm2 ((zm2 ((zm2 m 137 0 (Int32.ofNat 0))) 137 9 (((zm2 m 137 0 (Int32.ofNat 0))) 137 7))) 137 7 (Int32.ofNat 0))) 137 8 (Int32.ofNat 0))) 140)))) W 0).2.2.1 (q_readText ((zrow ((zm2 ((zm2 ((zm2 ((zm2 m 137 0 (Int32.ofNat 0))) 137 9 (((zm2 m 137 0 (Int32.ofNat 0))) 137 7))) 137 7 (Int32.ofNat 0))) 137 8 (Int32.ofNat 0))) 140 (crow W (((zm2 ((zm2 ((zm2 ((zm2 m 137 0 (Int32.ofNat 0))) 137 9 (((zm2 m 137 0 (Int32.ofNat 0))) 137 7))) 137 7 (Int32.ofNat 0))) 137 8 (Int32.ofNat 0))) 140)))) W 0).2.2.2)) (by omega) 
theorem c_machine {σ : Nat → Nat × (Nat → Int32)} {yy : (Nat → Nat → Int64) × Bool × Nat × Nat} {m : Nat → Nat → Int32} {W : Nat → Int32} {T : Nat} {b : Nat} (hT : m 137 7 = Int32.ofNat T) (hT2 : T ≤ 400) (h10 : m 137 10 = Int32.ofNat b) (hW : WG W) : zF σ 9 1862 [.ref 137] (zS1, zrow m 138 W, yy) (.inl (some (.int (q_machine m W).1))) (zS1, zrow ((q_machine m W).2.2) 138 ((q_machine m W).2.1), yy) := by
  intro d hd
  obtain ⟨d, rfl⟩ : ∃ k, d = k + 1 := ⟨d - 1, by omega⟩
  exact p_machine hd hT hT2 h10 hW
