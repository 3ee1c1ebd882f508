theorem ge1_ne {x : Int32} (h : zc2 .ge x (Int32.ofNat 1) = true) : ¬ x = 0 := by
  intro e
  rw [e] at h
  exact absurd h (by decide)
noncomputable def x_draw (m : Nat → Nat → Int32) (b : Nat) (x : Int32) : Int32 × (Nat → Nat → Int32) := (bif zc2 .ge x (Int32.ofNat 1) then ((((((((zm2 m b 9 (((m b 9) * (Int32.ofNat 1103515245)) + (Int32.ofNat 12345)))) b 9)).toUInt32 >>> (((Int32.ofNat 16)).toUInt32 &&& Int32.toUInt32 31)).toInt32 &&& (Int32.ofNat 32767)) - ((((((zm2 m b 9 (((m b 9) * (Int32.ofNat 1103515245)) + (Int32.ofNat 12345)))) b 9)).toUInt32 >>> (((Int32.ofNat 16)).toUInt32 &&& Int32.toUInt32 31)).toInt32 &&& (Int32.ofNat 32767)) / x * x), (zm2 m b 9 (((m b 9) * (Int32.ofNat 1103515245)) + (Int32.ofNat 12345)))) else ((Int32.ofNat 0), (zm2 m b 9 (((m b 9) * (Int32.ofNat 1103515245)) + (Int32.ofNat 12345)))))
theorem xp_draw {σ : Nat → Nat × (Nat → Int32)} {yy : (Nat → Nat → Int64) × Bool × Nat × Nat} {m : Nat → Nat → Int32} {b : Nat} {x : Int32} {d : Nat} (hd : 1 ≤ d + 1) (hb : BB b) : zEv σ (d + 1) 610 0 [some (.ref b), some (.int x)] [] (zS1, m, yy) (.inl (some (.int (x_draw m b x).1))) (zS1, ((x_draw m b x).2), yy) := by
  refine zeP rfl rfl ?_
  refine zeP rfl rfl ?_
  refine zeGI rfl rfl (shM hb) rfl rfl ?_
  refine zeKn (c := 1103515245) rfl rfl rfl ?_
  refine zeP rfl rfl ?_
  refine zeKn (c := 12345) rfl rfl rfl ?_
  refine zeP rfl rfl ?_
  refine zePI rfl rfl (shM hb) rfl ?_
  refine zeP rfl rfl ?_
  refine zeKn (c := 1) rfl rfl rfl ?_
  refine zeB2 rfl rfl (fun h1 => ?_) (fun h1 => ?_)
  · refine zeP rfl rfl ?_
    refine zeGI rfl rfl (shM hb) rfl rfl ?_
    refine zeKn (c := 16) rfl rfl rfl ?_
    refine zeP rfl rfl ?_
    refine zeKn (c := 32767) rfl rfl rfl ?_
    refine zeP rfl rfl ?_
    refine zeP rfl rfl ?_
    refine zeRem rfl (ge1_ne (by assumption)) ?_
    exact zeRe rfl rfl rfl rfl (by simp only [x_draw, h1, cond_true, cond_false] <;> rfl) (by simp only [x_draw, h1, cond_true, cond_false] <;> rfl)
  · refine zeKn (c := 0) rfl rfl rfl ?_
    refine zeP rfl rfl ?_
    exact zeRe rfl rfl rfl rfl (by simp only [x_draw, h1, cond_true, cond_false] <;> rfl) (by simp only [x_draw, h1, cond_true, cond_false] <;> rfl)
theorem xc_draw {σ : Nat → Nat × (Nat → Int32)} {yy : (Nat → Nat → Int64) × Bool × Nat × Nat} {m : Nat → Nat → Int32} {b : Nat} {x : Int32} (hb : BB b) : zF σ 1 610 [.ref b, .int x] (zS1, m, yy) (.inl (some (.int (x_draw m b x).1))) (zS1, ((x_draw m b x).2), yy) := by
  intro d hd
  obtain ⟨d, rfl⟩ : ∃ k, d = k + 1 := ⟨d - 1, by omega⟩
  exact xp_draw hd hb
theorem CG.draw {m : Nat → Nat → Int32} {b : Nat} {x : Int32} (h : CG m b) : CG (x_draw m b x).2 b := by
  unfold x_draw
  exact cndi (fun q : QM => CG q.2 b) (h.put _ (ncM (by omega) (by omega))) (h.put _ (ncM (by omega) (by omega)))
noncomputable def xl_nextByDraw (m : Nat → Nat → Int32) (b : Nat) : Nat → Int32 → Nat → Int32
  | 0, a, k => (-1)
  | n + 1, a, k => (bif zc1 .ne (x_sDone m b k) then (xl_nextByDraw m b n a ((k + 1))) else (bif zc1 .ne a then (xl_nextByDraw m b n ((a + Int32.ofInt (-1))) ((k + 1))) else (Int32.ofNat k)))
theorem xw_nextByDraw {σ : Nat → Nat × (Nat → Int32)} {yy : (Nat → Nat → Int64) × Bool × Nat × Nat} {m : Nat → Nat → Int32} {b : Nat} {d : Nat} (hd : 2 ≤ d + 1) (hb : BB b) (hc : CG m b) (hc4 : mv m b 5 ≤ 4) : ∀ (n : Nat) (x1 : Option Value) (a : Int32) (k : Nat), k + n = mv m b 5 → zEv σ (d + 1) 609 28 [some (.ref b), x1, some (.int a), some (.int (Int32.ofNat k))] [] (zS1, m, yy) (.inl (some (.int (xl_nextByDraw m b n a k)))) (zS1, m, yy) := by
  intro n
  induction n with
  | zero =>
    intro x1 a k hk
    refine zeP rfl rfl ?_
    refine zeP rfl rfl ?_
    refine zeGI rfl rfl (shM hb) rfl rfl ?_
    rw [hc.c]
    refine zeT2 rfl rfl (zcge (by omega) (by omega) (by omega)) ?_
    refine zeK (v := -1) rfl rfl rfl ?_
    exact zeRe rfl rfl rfl rfl (by rfl) (by rfl)
  | succ n ih =>
    intro x1 a k hk
    refine zeP rfl rfl ?_
    refine zeP rfl rfl ?_
    refine zeGI rfl rfl (shM hb) rfl rfl ?_
    rw [hc.c]
    refine zeF2 rfl rfl (zcge_f (by omega) (by omega) (by omega)) ?_
    refine zeP rfl rfl ?_
    refine zeP rfl rfl ?_
    refine zeCV rfl rfl rfl rfl (shM hb) rfl (xc_strandAt (m := m) (b := b) (t := k) hb (by omega)) (by omega) ?_
    dsimp only [Option.toList, List.cons_append, List.nil_append]
    refine zeCV rfl rfl rfl rfl (shS hb (by omega)) rfl (xc_sDone (m := m) (b := b) (t := k) hb (by omega)) (by omega) ?_
    dsimp only [Option.toList, List.cons_append, List.nil_append]
    refine zeB1 rfl rfl (fun h1 => ?_) (fun h1 => ?_)
    · refine zeInc rfl rfl ?_
      refine zeP rfl rfl ?_
      simp only [xl_nextByDraw, h1, cond_true, cond_false]
      exact ih (x1) (a) ((k + 1))   (by omega) 
    · refine zeP rfl rfl ?_
      refine zeB1 rfl rfl (fun h2 => ?_) (fun h2 => ?_)
      · refine zeP rfl rfl ?_
        refine zeInc rfl rfl ?_
        refine zeP rfl rfl ?_
        simp only [xl_nextByDraw, h1, h2, cond_true, cond_false]
        exact ih (x1) ((a + Int32.ofInt (-1))) ((k + 1))   (by omega) 
      · refine zeP rfl rfl ?_
        exact zeRe rfl rfl rfl rfl (by simp only [xl_nextByDraw, h1, h2, cond_true, cond_false] <;> rfl) (by simp only [xl_nextByDraw, h1, h2, cond_true, cond_false] <;> rfl)
noncomputable def x_nextByDraw (m : Nat → Nat → Int32) (b : Nat) : Int32 × (Nat → Nat → Int32) := (bif zc2 .ge ((m b 5) - (x_bitCount ((x_doneBits m b)))) (Int32.ofNat 1) then ((xl_nextByDraw ((x_draw m b (((m b 5) - (x_bitCount ((x_doneBits m b)))))).2) b ((mv (x_draw m b (m b 5 - x_bitCount (x_doneBits m b))).2 b 5)) ((x_draw m b (((m b 5) - (x_bitCount ((x_doneBits m b)))))).1) 0), (x_draw m b (((m b 5) - (x_bitCount ((x_doneBits m b)))))).2) else ((-1), m))
theorem xp_nextByDraw {σ : Nat → Nat × (Nat → Int32)} {yy : (Nat → Nat → Int64) × Bool × Nat × Nat} {m : Nat → Nat → Int32} {b : Nat} {d : Nat} (hd : 3 ≤ d + 1) (hb : BB b) (hc : CG m b) : zEv σ (d + 1) 609 0 [some (.ref b), none, none, none] [] (zS1, m, yy) (.inl (some (.int (x_nextByDraw m b).1))) (zS1, ((x_nextByDraw m b).2), yy) := by
  refine zeP rfl rfl ?_
  refine zeGI rfl rfl (shM hb) rfl rfl ?_
  refine zeP rfl rfl ?_
  refine zeCV rfl rfl rfl rfl (shM hb) rfl (xc_doneBits (m := m) (b := b) hb hc) (by omega) ?_
  dsimp only [Option.toList, List.cons_append, List.nil_append]
  refine zeCF rfl rfl rfl rfl rfl rfl (xc_bitCount (m := m) (i := (x_doneBits m b)) ) (by omega) ?_
  dsimp only [Option.toList, List.cons_append, List.nil_append]
  refine zeP rfl rfl ?_
  refine zeP rfl rfl ?_
  refine zeP rfl rfl ?_
  refine zeKn (c := 1) rfl rfl rfl ?_
  refine zeB2 rfl rfl (fun h1 => ?_) (fun h1 => ?_)
  · refine zeP rfl rfl ?_
    refine zeP rfl rfl ?_
    refine zeCV rfl rfl rfl rfl (shM hb) rfl (xc_draw (m := m) (b := b) (x := ((m b 5) - (x_bitCount ((x_doneBits m b))))) hb) (by omega) ?_
    dsimp only [Option.toList, List.cons_append, List.nil_append]
    refine zeP rfl rfl ?_
    refine zeKn (c := 0) rfl rfl rfl ?_
    refine zeP rfl rfl ?_
    simp only [x_nextByDraw, h1, cond_true, cond_false]
    exact xw_nextByDraw (b := b) (m := (x_draw m b (((m b 5) - (x_bitCount ((x_doneBits m b)))))).2) (by omega) hb hc.draw hc.draw.c4 ((mv (x_draw m b (m b 5 - x_bitCount (x_doneBits m b))).2 b 5)) (some (.int ((m b 5) - (x_bitCount ((x_doneBits m b)))))) ((x_draw m b (((m b 5) - (x_bitCount ((x_doneBits m b)))))).1) (0)   (by omega) 
  · refine zeK (v := -1) rfl rfl rfl ?_
    exact zeRe rfl rfl rfl rfl (by simp only [x_nextByDraw, h1, cond_true, cond_false] <;> rfl) (by simp only [x_nextByDraw, h1, cond_true, cond_false] <;> rfl)
theorem xc_nextByDraw {σ : Nat → Nat × (Nat → Int32)} {yy : (Nat → Nat → Int64) × Bool × Nat × Nat} {m : Nat → Nat → Int32} {b : Nat} (hb : BB b) (hc : CG m b) : zF σ 3 609 [.ref b] (zS1, m, yy) (.inl (some (.int (x_nextByDraw m b).1))) (zS1, ((x_nextByDraw m b).2), yy) := by
  intro d hd
  obtain ⟨d, rfl⟩ : ∃ k, d = k + 1 := ⟨d - 1, by omega⟩
  exact xp_nextByDraw hd hb hc
theorem sDone_01 {m : Nat → Nat → Int32} {b t : Nat} : x_sDone m b t = 0 ∨ x_sDone m b t = 1 := by
  unfold x_sDone
  exact cndi (fun q : Int32 => q = 0 ∨ q = 1) (Or.inl rfl) (Or.inr rfl)
noncomputable def x_mDoneT (m : Nat → Nat → Int32) (b : Nat) (t : Nat) : Int32 := (x_sDone m b t)
theorem xp_mDoneT {σ : Nat → Nat × (Nat → Int32)} {yy : (Nat → Nat → Int64) × Bool × Nat × Nat} {m : Nat → Nat → Int32} {b : Nat} {t : Nat} {d : Nat} (hd : 2 ≤ d + 1) (hb : BB b) (ht : t < 4) : zEv σ (d + 1) 607 0 [some (.ref b), some (.int (Int32.ofNat t))] [] (zS1, m, yy) (.inl (some (.int (x_mDoneT m b t)))) (zS1, m, yy) := by
  refine zeP rfl rfl ?_
  refine zeK (v := -1) rfl rfl rfl ?_
  refine zeT2 rfl rfl (zne1t (by omega)) ?_
  refine zeP rfl rfl ?_
  refine zeP rfl rfl ?_
  refine zeCV rfl rfl rfl rfl (shM hb) rfl (xc_strandAt (m := m) (b := b) (t := t) hb ht) (by omega) ?_
  dsimp only [Option.toList, List.cons_append, List.nil_append]
  refine zeCV rfl rfl rfl rfl (shS hb (by omega)) rfl (xc_sDone (m := m) (b := b) (t := t) hb ht) (by omega) ?_
  dsimp only [Option.toList, List.cons_append, List.nil_append]
  exact zeRe rfl rfl rfl (zretB rfl rfl sDone_01) (by rfl) (by rfl)
theorem xc_mDoneT {σ : Nat → Nat × (Nat → Int32)} {yy : (Nat → Nat → Int64) × Bool × Nat × Nat} {m : Nat → Nat → Int32} {b : Nat} {t : Nat} (hb : BB b) (ht : t < 4) : zF σ 2 607 [.ref b, .int (Int32.ofNat t)] (zS1, m, yy) (.inl (some (.int (x_mDoneT m b t)))) (zS1, m, yy) := by
  intro d hd
  obtain ⟨d, rfl⟩ : ∃ k, d = k + 1 := ⟨d - 1, by omega⟩
  exact xp_mDoneT hd hb ht
noncomputable def x_mDoneX (m : Nat → Nat → Int32) (b : Nat) : Int32 := (bif zc2 .ne (x_nextByTurn m b) (-1) then (Int32.ofNat 0) else (Int32.ofNat 1))
theorem xp_mDoneX {σ : Nat → Nat × (Nat → Int32)} {yy : (Nat → Nat → Int64) × Bool × Nat × Nat} {m : Nat → Nat → Int32} {b : Nat} {d : Nat} (hd : 3 ≤ d + 1) (hb : BB b) (hc : CG m b) (hL : LTC m b) : zEv σ (d + 1) 607 0 [some (.ref b), some (.int (-1))] [] (zS1, m, yy) (.inl (some (.int (x_mDoneX m b)))) (zS1, m, yy) := by
  refine zeP rfl rfl ?_
  refine zeK (v := -1) rfl rfl rfl ?_
  refine zeF2 rfl rfl (by decide) ?_
  refine zeP rfl rfl ?_
  refine zeCV rfl rfl rfl rfl (shM hb) rfl (xc_nextByTurn (m := m) (b := b) hb hc hL) (by omega) ?_
  dsimp only [Option.toList, List.cons_append, List.nil_append]
  refine zeK (v := -1) rfl rfl rfl ?_
  refine zeB2 rfl rfl (fun h1 => ?_) (fun h1 => ?_)
  · refine zeKn (c := 0) rfl rfl rfl ?_
    refine zeP rfl rfl ?_
    exact zeRe rfl rfl rfl rfl (by simp only [x_mDoneX, h1, cond_true, cond_false] <;> rfl) (by simp only [x_mDoneX, h1, cond_true, cond_false] <;> rfl)
  · refine zeKn (c := 1) rfl rfl rfl ?_
    refine zeP rfl rfl ?_
    exact zeRe rfl rfl rfl rfl (by simp only [x_mDoneX, h1, cond_true, cond_false] <;> rfl) (by simp only [x_mDoneX, h1, cond_true, cond_false] <;> rfl)
theorem xc_mDoneX {σ : Nat → Nat × (Nat → Int32)} {yy : (Nat → Nat → Int64) × Bool × Nat × Nat} {m : Nat → Nat → Int32} {b : Nat} (hb : BB b) (hc : CG m b) (hL : LTC m b) : zF σ 3 607 [.ref b, .int (-1)] (zS1, m, yy) (.inl (some (.int (x_mDoneX m b)))) (zS1, m, yy) := by
  intro d hd
  obtain ⟨d, rfl⟩ : ∃ k, d = k + 1 := ⟨d - 1, by omega⟩
  exact xp_mDoneX hd hb hc hL
