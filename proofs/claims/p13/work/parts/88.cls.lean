theorem zxle {m m' : Nat → Nat → Int32} {a k c : Nat} (e : m' a k = m a k) (h : mv m a k ≤ c) : mv m' a k ≤ c := by
  unfold mv at *
  rw [e]; exact h
theorem leaveOut_ne {m : Nat → Nat → Int32} {b t i l : Nat} {x : Int32} (h1 : i ≠ b + 14 + 7 * t) (h2 : i ≠ b + 15 + 7 * t) : x_leaveOut m b t x i l = m i l := by
  unfold x_leaveOut
  refine cndi (fun q : Nat → Nat → Int32 => q i l = m i l) rfl ?_
  rw [zx_ne _ _ _ h1, zx_ne _ _ _ h2]
theorem begin_ne {m : Nat → Nat → Int32} {b t i l : Nat} {x y z : Int32} (h : i ≠ b + 14 + 7 * t) : x_begin m b t x y z i l = m i l := by
  unfold x_begin
  rw [zx_ne _ _ _ h, zx_ne _ _ _ h, zx_ne _ _ _ h, zx_ne _ _ _ h]
theorem begin_5 {m : Nat → Nat → Int32} {b t : Nat} {x y z : Int32} : x_begin m b t x y z (b + 14 + 7 * t) 5 = m (b + 14 + 7 * t) 5 := by
  unfold x_begin
  rw [zx_nk _ _ (by omega), zx_nk _ _ (by omega), zx_nk _ _ (by omega), zx_nk _ _ (by omega)]
theorem CG.w32 {m : Nat → Nat → Int32} {b l : Nat} (h : CG m b) (hl : l < 4) : mv m (b + 5 + l) 0 < 32 := Nat.lt_succ_of_le (h.w hl).2
noncomputable def x_takePB (m : Nat → Nat → Int32) (b : Nat) (t : Nat) (l : Nat) : Int32 × (Nat → Nat → Int32) := (bif zc1 .eq (m ((b + 1)) ((mv m (b + 5 + l) 0))) then (bif zc2 .ge (m ((b + 10 + 7 * t)) 5) (m ((b + 3)) 1) then (bif zc1 .ne ((((zm2 ((zm2 ((x_reach m b t ((mv m (b + 5 + l) 0)) ((Int32.ofNat 1))).2) ((b + 10 + 7 * t)) 5 (Int32.ofNat 0))) ((b + 5 + l)) 2 ((((zm2 ((x_reach m b t ((mv m (b + 5 + l) 0)) ((Int32.ofNat 1))).2) ((b + 10 + 7 * t)) 5 (Int32.ofNat 0))) ((b + 5 + l)) 2) + (Int32.ofNat 1)))) ((b + 5 + l)) 2) - (((zm2 ((zm2 ((x_reach m b t ((mv m (b + 5 + l) 0)) ((Int32.ofNat 1))).2) ((b + 10 + 7 * t)) 5 (Int32.ofNat 0))) ((b + 5 + l)) 2 ((((zm2 ((x_reach m b t ((mv m (b + 5 + l) 0)) ((Int32.ofNat 1))).2) ((b + 10 + 7 * t)) 5 (Int32.ofNat 0))) ((b + 5 + l)) 2) + (Int32.ofNat 1)))) ((b + 5 + l)) 2) / (if (Int32.ofNat 1) < (((zm2 ((zm2 ((x_reach m b t ((mv m (b + 5 + l) 0)) ((Int32.ofNat 1))).2) ((b + 10 + 7 * t)) 5 (Int32.ofNat 0))) ((b + 5 + l)) 2 ((((zm2 ((x_reach m b t ((mv m (b + 5 + l) 0)) ((Int32.ofNat 1))).2) ((b + 10 + 7 * t)) 5 (Int32.ofNat 0))) ((b + 5 + l)) 2) + (Int32.ofNat 1)))) ((b + 3)) 7) then (((zm2 ((zm2 ((x_reach m b t ((mv m (b + 5 + l) 0)) ((Int32.ofNat 1))).2) ((b + 10 + 7 * t)) 5 (Int32.ofNat 0))) ((b + 5 + l)) 2 ((((zm2 ((x_reach m b t ((mv m (b + 5 + l) 0)) ((Int32.ofNat 1))).2) ((b + 10 + 7 * t)) 5 (Int32.ofNat 0))) ((b + 5 + l)) 2) + (Int32.ofNat 1)))) ((b + 3)) 7) else (Int32.ofNat 1)) * (if (Int32.ofNat 1) < (((zm2 ((zm2 ((x_reach m b t ((mv m (b + 5 + l) 0)) ((Int32.ofNat 1))).2) ((b + 10 + 7 * t)) 5 (Int32.ofNat 0))) ((b + 5 + l)) 2 ((((zm2 ((x_reach m b t ((mv m (b + 5 + l) 0)) ((Int32.ofNat 1))).2) ((b + 10 + 7 * t)) 5 (Int32.ofNat 0))) ((b + 5 + l)) 2) + (Int32.ofNat 1)))) ((b + 3)) 7) then (((zm2 ((zm2 ((x_reach m b t ((mv m (b + 5 + l) 0)) ((Int32.ofNat 1))).2) ((b + 10 + 7 * t)) 5 (Int32.ofNat 0))) ((b + 5 + l)) 2 ((((zm2 ((x_reach m b t ((mv m (b + 5 + l) 0)) ((Int32.ofNat 1))).2) ((b + 10 + 7 * t)) 5 (Int32.ofNat 0))) ((b + 5 + l)) 2) + (Int32.ofNat 1)))) ((b + 3)) 7) else (Int32.ofNat 1))) then ((Int32.ofNat 1), (x_logAdd ((zm2 ((zm2 ((x_reach m b t ((mv m (b + 5 + l) 0)) ((Int32.ofNat 1))).2) ((b + 10 + 7 * t)) 5 (Int32.ofNat 0))) ((b + 5 + l)) 2 ((((zm2 ((x_reach m b t ((mv m (b + 5 + l) 0)) ((Int32.ofNat 1))).2) ((b + 10 + 7 * t)) 5 (Int32.ofNat 0))) ((b + 5 + l)) 2) + (Int32.ofNat 1)))) b ((((zm2 ((zm2 ((x_reach m b t ((mv m (b + 5 + l) 0)) ((Int32.ofNat 1))).2) ((b + 10 + 7 * t)) 5 (Int32.ofNat 0))) ((b + 5 + l)) 2 ((((zm2 ((x_reach m b t ((mv m (b + 5 + l) 0)) ((Int32.ofNat 1))).2) ((b + 10 + 7 * t)) 5 (Int32.ofNat 0))) ((b + 5 + l)) 2) + (Int32.ofNat 1)))) b 7)) ((Int32.ofNat t)) ((Int32.ofNat 3)) ((Int32.ofNat l)))) else ((Int32.ofNat 1), (x_logAdd ((x_gain ((zm2 ((zm2 ((x_reach m b t ((mv m (b + 5 + l) 0)) ((Int32.ofNat 1))).2) ((b + 10 + 7 * t)) 5 (Int32.ofNat 0))) ((b + 5 + l)) 2 ((((zm2 ((x_reach m b t ((mv m (b + 5 + l) 0)) ((Int32.ofNat 1))).2) ((b + 10 + 7 * t)) 5 (Int32.ofNat 0))) ((b + 5 + l)) 2) + (Int32.ofNat 1)))) b l ((Int32.ofNat 1)))) b ((((x_gain ((zm2 ((zm2 ((x_reach m b t ((mv m (b + 5 + l) 0)) ((Int32.ofNat 1))).2) ((b + 10 + 7 * t)) 5 (Int32.ofNat 0))) ((b + 5 + l)) 2 ((((zm2 ((x_reach m b t ((mv m (b + 5 + l) 0)) ((Int32.ofNat 1))).2) ((b + 10 + 7 * t)) 5 (Int32.ofNat 0))) ((b + 5 + l)) 2) + (Int32.ofNat 1)))) b l ((Int32.ofNat 1)))) b 7)) ((Int32.ofNat t)) ((Int32.ofNat 3)) ((Int32.ofNat l))))) else (bif zc2 .lt (m ((b + 5 + l)) 1) (m ((b + 3)) 4) then (bif zc1 .ne ((((zm2 ((zm2 ((x_reach m b t ((mv m (b + 5 + l) 0)) ((Int32.ofNat 1))).2) ((b + 10 + 7 * t)) 5 (Int32.ofNat 0))) ((b + 5 + l)) 2 ((((zm2 ((x_reach m b t ((mv m (b + 5 + l) 0)) ((Int32.ofNat 1))).2) ((b + 10 + 7 * t)) 5 (Int32.ofNat 0))) ((b + 5 + l)) 2) + (Int32.ofNat 1)))) ((b + 5 + l)) 2) - (((zm2 ((zm2 ((x_reach m b t ((mv m (b + 5 + l) 0)) ((Int32.ofNat 1))).2) ((b + 10 + 7 * t)) 5 (Int32.ofNat 0))) ((b + 5 + l)) 2 ((((zm2 ((x_reach m b t ((mv m (b + 5 + l) 0)) ((Int32.ofNat 1))).2) ((b + 10 + 7 * t)) 5 (Int32.ofNat 0))) ((b + 5 + l)) 2) + (Int32.ofNat 1)))) ((b + 5 + l)) 2) / (if (Int32.ofNat 1) < (((zm2 ((zm2 ((x_reach m b t ((mv m (b + 5 + l) 0)) ((Int32.ofNat 1))).2) ((b + 10 + 7 * t)) 5 (Int32.ofNat 0))) ((b + 5 + l)) 2 ((((zm2 ((x_reach m b t ((mv m (b + 5 + l) 0)) ((Int32.ofNat 1))).2) ((b + 10 + 7 * t)) 5 (Int32.ofNat 0))) ((b + 5 + l)) 2) + (Int32.ofNat 1)))) ((b + 3)) 7) then (((zm2 ((zm2 ((x_reach m b t ((mv m (b + 5 + l) 0)) ((Int32.ofNat 1))).2) ((b + 10 + 7 * t)) 5 (Int32.ofNat 0))) ((b + 5 + l)) 2 ((((zm2 ((x_reach m b t ((mv m (b + 5 + l) 0)) ((Int32.ofNat 1))).2) ((b + 10 + 7 * t)) 5 (Int32.ofNat 0))) ((b + 5 + l)) 2) + (Int32.ofNat 1)))) ((b + 3)) 7) else (Int32.ofNat 1)) * (if (Int32.ofNat 1) < (((zm2 ((zm2 ((x_reach m b t ((mv m (b + 5 + l) 0)) ((Int32.ofNat 1))).2) ((b + 10 + 7 * t)) 5 (Int32.ofNat 0))) ((b + 5 + l)) 2 ((((zm2 ((x_reach m b t ((mv m (b + 5 + l) 0)) ((Int32.ofNat 1))).2) ((b + 10 + 7 * t)) 5 (Int32.ofNat 0))) ((b + 5 + l)) 2) + (Int32.ofNat 1)))) ((b + 3)) 7) then (((zm2 ((zm2 ((x_reach m b t ((mv m (b + 5 + l) 0)) ((Int32.ofNat 1))).2) ((b + 10 + 7 * t)) 5 (Int32.ofNat 0))) ((b + 5 + l)) 2 ((((zm2 ((x_reach m b t ((mv m (b + 5 + l) 0)) ((Int32.ofNat 1))).2) ((b + 10 + 7 * t)) 5 (Int32.ofNat 0))) ((b + 5 + l)) 2) + (Int32.ofNat 1)))) ((b + 3)) 7) else (Int32.ofNat 1))) then ((Int32.ofNat 1), (x_logAdd ((zm2 ((zm2 ((x_reach m b t ((mv m (b + 5 + l) 0)) ((Int32.ofNat 1))).2) ((b + 10 + 7 * t)) 5 (Int32.ofNat 0))) ((b + 5 + l)) 2 ((((zm2 ((x_reach m b t ((mv m (b + 5 + l) 0)) ((Int32.ofNat 1))).2) ((b + 10 + 7 * t)) 5 (Int32.ofNat 0))) ((b + 5 + l)) 2) + (Int32.ofNat 1)))) b ((((zm2 ((zm2 ((x_reach m b t ((mv m (b + 5 + l) 0)) ((Int32.ofNat 1))).2) ((b + 10 + 7 * t)) 5 (Int32.ofNat 0))) ((b + 5 + l)) 2 ((((zm2 ((x_reach m b t ((mv m (b + 5 + l) 0)) ((Int32.ofNat 1))).2) ((b + 10 + 7 * t)) 5 (Int32.ofNat 0))) ((b + 5 + l)) 2) + (Int32.ofNat 1)))) b 7)) ((Int32.ofNat t)) ((Int32.ofNat 3)) ((Int32.ofNat l)))) else ((Int32.ofNat 1), (x_logAdd ((x_gain ((zm2 ((zm2 ((x_reach m b t ((mv m (b + 5 + l) 0)) ((Int32.ofNat 1))).2) ((b + 10 + 7 * t)) 5 (Int32.ofNat 0))) ((b + 5 + l)) 2 ((((zm2 ((x_reach m b t ((mv m (b + 5 + l) 0)) ((Int32.ofNat 1))).2) ((b + 10 + 7 * t)) 5 (Int32.ofNat 0))) ((b + 5 + l)) 2) + (Int32.ofNat 1)))) b l ((Int32.ofNat 1)))) b ((((x_gain ((zm2 ((zm2 ((x_reach m b t ((mv m (b + 5 + l) 0)) ((Int32.ofNat 1))).2) ((b + 10 + 7 * t)) 5 (Int32.ofNat 0))) ((b + 5 + l)) 2 ((((zm2 ((x_reach m b t ((mv m (b + 5 + l) 0)) ((Int32.ofNat 1))).2) ((b + 10 + 7 * t)) 5 (Int32.ofNat 0))) ((b + 5 + l)) 2) + (Int32.ofNat 1)))) b l ((Int32.ofNat 1)))) b 7)) ((Int32.ofNat t)) ((Int32.ofNat 3)) ((Int32.ofNat l))))) else ((Int32.ofNat 1), (x_logAdd ((zm2 ((x_leaveOut ((x_begin m b t ((m ((b + 10 + 7 * t)) 3)) ((m ((b + 10 + 7 * t)) 4)) ((m b 7)))) b t ((Int32.ofNat l)))) ((b + 14 + 7 * t)) 6 (x_blockBit ((x_leaveOut ((x_begin m b t ((m ((b + 10 + 7 * t)) 3)) ((m ((b + 10 + 7 * t)) 4)) ((m b 7)))) b t ((Int32.ofNat l)))) b ((((x_leaveOut ((x_begin m b t ((m ((b + 10 + 7 * t)) 3)) ((m ((b + 10 + 7 * t)) 4)) ((m b 7)))) b t ((Int32.ofNat l)))) ((b + 5 + l)) 0))))) b ((((zm2 ((x_leaveOut ((x_begin m b t ((m ((b + 10 + 7 * t)) 3)) ((m ((b + 10 + 7 * t)) 4)) ((m b 7)))) b t ((Int32.ofNat l)))) ((b + 14 + 7 * t)) 6 (x_blockBit ((x_leaveOut ((x_begin m b t ((m ((b + 10 + 7 * t)) 3)) ((m ((b + 10 + 7 * t)) 4)) ((m b 7)))) b t ((Int32.ofNat l)))) b ((((x_leaveOut ((x_begin m b t ((m ((b + 10 + 7 * t)) 3)) ((m ((b + 10 + 7 * t)) 4)) ((m b 7)))) b t ((Int32.ofNat l)))) ((b + 5 + l)) 0))))) b 7)) ((Int32.ofNat t)) ((Int32.ofNat 0)) ((Int32.ofNat l)))))) else ((Int32.ofNat 0), m))
theorem xp_takePB {σ : Nat → Nat × (Nat → Int32)} {yy : (Nat → Nat → Int64) × Bool × Nat × Nat} {m : Nat → Nat → Int32} {b : Nat} {t : Nat} {l : Nat} {d : Nat} (hd : 4 ≤ d + 1) (hb : BB b) (hc : CG m b) (ht : t < 4) (hl : l < 4) : zEv σ (d + 1) 613 19 [some (.ref b), some (.int (Int32.ofNat t)), some (.ref (b + 10 + 7 * t)), some (.int (Int32.ofNat l)), some (.ref (b + 5 + l))] [] (zS1, m, yy) (.inl (some (.int (x_takePB m b t l).1))) (zS1, ((x_takePB m b t l).2), yy) := by
  refine zeP rfl rfl ?_
  refine zeGR rfl rfl (shM hb) rfl rfl ?_
  refine zeP rfl rfl ?_
  refine zeGI rfl rfl (shL hb (by omega)) rfl rfl ?_
  rw [(hc.w hl).1]
  refine zeKn (c := 31) rfl rfl rfl ?_
  refine zeON (c := (mv m (b + 5 + l) 0)) rfl rfl (zand31 _ (hc.w32 hl)) ?_
  refine zeAL (k := (mv m (b + 5 + l) 0)) rfl (bb1000 hb (by omega)) (shW hb) rfl (hc.w32 hl) ?_
  refine zeB1 rfl rfl (fun h1 => ?_) (fun h1 => ?_)
  · refine zeP rfl rfl ?_
    refine zeGI rfl rfl (shS hb (by omega)) rfl rfl ?_
    refine zeP rfl rfl ?_
    refine zeGR rfl rfl (shM hb) rfl rfl ?_
    refine zeKn (c := 1) rfl rfl rfl ?_
    refine zeAL (k := 1) rfl (bb1000 hb (by omega)) (shE hb) rfl (by omega) ?_
    refine zeB2 rfl rfl (fun h2 => ?_) (fun h2 => ?_)
    · refine zeP rfl rfl ?_
      refine zeP rfl rfl ?_
      refine zeP rfl rfl ?_
      refine zeGI rfl rfl (shL hb (by omega)) rfl rfl ?_
      rw [(hc.w hl).1]
      refine zeKn (c := 1) rfl rfl rfl ?_
      refine zeCV rfl rfl rfl rfl (shM hb) rfl (xc_reach (m := m) (b := b) (t := t) (w := (mv m (b + 5 + l) 0)) (v := (Int32.ofNat 1)) hb hc ht (hc.w32 hl)) (by omega) ?_
      dsimp only [Option.toList, List.cons_append, List.nil_append]
      refine zeP rfl rfl ?_
      refine zeP rfl rfl ?_
      refine zeKn (c := 0) rfl rfl rfl ?_
      refine zePI rfl rfl (shS hb (by omega)) rfl ?_
      refine zeP rfl rfl ?_
      refine zeP rfl rfl ?_
      refine zeGI rfl rfl (shL hb (by omega)) rfl rfl ?_
      refine zeKn (c := 1) rfl rfl rfl ?_
      refine zeP rfl rfl ?_
      refine zePI rfl rfl (shL hb (by omega)) rfl ?_
      refine zeP rfl rfl ?_
      refine zeGI rfl rfl (shL hb (by omega)) rfl rfl ?_
      refine zeKn (c := 1) rfl rfl rfl ?_
      refine zeP rfl rfl ?_
      refine zeGR rfl rfl (shM hb) rfl rfl ?_
      refine zeKn (c := 7) rfl rfl rfl ?_
      refine zeAL (k := 7) rfl (bb1000 hb (by omega)) (shE hb) rfl (by omega) ?_
      refine zeM rfl rfl rfl rfl rfl rfl rfl ?_
      refine zeRem rfl mx1 ?_
      refine zeB1 rfl rfl (fun h3 => ?_) (fun h3 => ?_)
      · refine zeP rfl rfl ?_
        refine zeGR rfl rfl (shM hb) rfl rfl ?_
        refine zeP rfl rfl ?_
        refine zeGI rfl rfl (shM hb) rfl rfl ?_
        refine zeP rfl rfl ?_
        refine zeKn (c := 3) rfl rfl rfl ?_
        refine zeP rfl rfl ?_
        refine zeCV rfl rfl rfl rfl (shLG hb) rfl (xc_logAdd (m := (zm2 ((zm2 ((x_reach m b t ((mv m (b + 5 + l) 0)) ((Int32.ofNat 1))).2) ((b + 10 + 7 * t)) 5 (Int32.ofNat 0))) ((b + 5 + l)) 2 ((((zm2 ((x_reach m b t ((mv m (b + 5 + l) 0)) ((Int32.ofNat 1))).2) ((b + 10 + 7 * t)) 5 (Int32.ofNat 0))) ((b + 5 + l)) 2) + (Int32.ofNat 1)))) (b := b) (t := (((zm2 ((zm2 ((x_reach m b t ((mv m (b + 5 + l) 0)) ((Int32.ofNat 1))).2) ((b + 10 + 7 * t)) 5 (Int32.ofNat 0))) ((b + 5 + l)) 2 ((((zm2 ((x_reach m b t ((mv m (b + 5 + l) 0)) ((Int32.ofNat 1))).2) ((b + 10 + 7 * t)) 5 (Int32.ofNat 0))) ((b + 5 + l)) 2) + (Int32.ofNat 1)))) b 7)) (u := (Int32.ofNat t)) (w := (Int32.ofNat 3)) (v := (Int32.ofNat l)) hb (zxn (by simp (disch := omega) only [gain_ne, zx_ne]) (hc.reach (t := t) (w := (mv m (b + 5 + l) 0)) (v := Int32.ofNat 1) ht).n) (zxb (by simp (disch := omega) only [gain_ne, zx_ne]) (hc.reach (t := t) (w := (mv m (b + 5 + l) 0)) (v := Int32.ofNat 1) ht).n60)) (by omega) ?_
        dsimp only [Option.toList, List.cons_append, List.nil_append]
        refine zeKn (c := 1) rfl rfl rfl ?_
        exact zeRe rfl rfl rfl rfl (by simp only [x_takePB, h1, h2, h3, cond_true, cond_false] <;> rfl) (by simp only [x_takePB, h1, h2, h3, cond_true, cond_false] <;> rfl)
      · refine zeP rfl rfl ?_
        refine zeKn (c := 1) rfl rfl rfl ?_
        refine zeCV rfl rfl rfl rfl (shL hb (by omega)) rfl (xc_gain (m := (zm2 ((zm2 ((x_reach m b t ((mv m (b + 5 + l) 0)) ((Int32.ofNat 1))).2) ((b + 10 + 7 * t)) 5 (Int32.ofNat 0))) ((b + 5 + l)) 2 ((((zm2 ((x_reach m b t ((mv m (b + 5 + l) 0)) ((Int32.ofNat 1))).2) ((b + 10 + 7 * t)) 5 (Int32.ofNat 0))) ((b + 5 + l)) 2) + (Int32.ofNat 1)))) (b := b) (l := l) (x := (Int32.ofNat 1)) hb hl) (by omega) ?_
        dsimp only [Option.toList, List.cons_append, List.nil_append]
        refine zeP rfl rfl ?_
        refine zeGR rfl rfl (shM hb) rfl rfl ?_
        refine zeP rfl rfl ?_
        refine zeGI rfl rfl (shM hb) rfl rfl ?_
        refine zeP rfl rfl ?_
        refine zeKn (c := 3) rfl rfl rfl ?_
        refine zeP rfl rfl ?_
        refine zeCV rfl rfl rfl rfl (shLG hb) rfl (xc_logAdd (m := (x_gain ((zm2 ((zm2 ((x_reach m b t ((mv m (b + 5 + l) 0)) ((Int32.ofNat 1))).2) ((b + 10 + 7 * t)) 5 (Int32.ofNat 0))) ((b + 5 + l)) 2 ((((zm2 ((x_reach m b t ((mv m (b + 5 + l) 0)) ((Int32.ofNat 1))).2) ((b + 10 + 7 * t)) 5 (Int32.ofNat 0))) ((b + 5 + l)) 2) + (Int32.ofNat 1)))) b l ((Int32.ofNat 1)))) (b := b) (t := (((x_gain ((zm2 ((zm2 ((x_reach m b t ((mv m (b + 5 + l) 0)) ((Int32.ofNat 1))).2) ((b + 10 + 7 * t)) 5 (Int32.ofNat 0))) ((b + 5 + l)) 2 ((((zm2 ((x_reach m b t ((mv m (b + 5 + l) 0)) ((Int32.ofNat 1))).2) ((b + 10 + 7 * t)) 5 (Int32.ofNat 0))) ((b + 5 + l)) 2) + (Int32.ofNat 1)))) b l ((Int32.ofNat 1)))) b 7)) (u := (Int32.ofNat t)) (w := (Int32.ofNat 3)) (v := (Int32.ofNat l)) hb (zxn (by simp (disch := omega) only [gain_ne, zx_ne]) (hc.reach (t := t) (w := (mv m (b + 5 + l) 0)) (v := Int32.ofNat 1) ht).n) (zxb (by simp (disch := omega) only [gain_ne, zx_ne]) (hc.reach (t := t) (w := (mv m (b + 5 + l) 0)) (v := Int32.ofNat 1) ht).n60)) (by omega) ?_
        dsimp only [Option.toList, List.cons_append, List.nil_append]
        refine zeKn (c := 1) rfl rfl rfl ?_
        exact zeRe rfl rfl rfl rfl (by simp only [x_takePB, h1, h2, h3, cond_true, cond_false] <;> rfl) (by simp only [x_takePB, h1, h2, h3, cond_true, cond_false] <;> rfl)
    · refine zeP rfl rfl ?_
      refine zeGI rfl rfl (shL hb (by omega)) rfl rfl ?_
      refine zeP rfl rfl ?_
      refine zeGR rfl rfl (shM hb) rfl rfl ?_
      refine zeKn (c := 4) rfl rfl rfl ?_
      refine zeAL (k := 4) rfl (bb1000 hb (by omega)) (shE hb) rfl (by omega) ?_
      refine zeB2 rfl rfl (fun h4 => ?_) (fun h4 => ?_)
      · refine zeP rfl rfl ?_
        refine zeP rfl rfl ?_
        refine zeP rfl rfl ?_
        refine zeGI rfl rfl (shL hb (by omega)) rfl rfl ?_
        rw [(hc.w hl).1]
        refine zeKn (c := 1) rfl rfl rfl ?_
        refine zeCV rfl rfl rfl rfl (shM hb) rfl (xc_reach (m := m) (b := b) (t := t) (w := (mv m (b + 5 + l) 0)) (v := (Int32.ofNat 1)) hb hc ht (hc.w32 hl)) (by omega) ?_
        dsimp only [Option.toList, List.cons_append, List.nil_append]
        refine zeP rfl rfl ?_
        refine zeP rfl rfl ?_
        refine zeKn (c := 0) rfl rfl rfl ?_
        refine zePI rfl rfl (shS hb (by omega)) rfl ?_
        refine zeP rfl rfl ?_
        refine zeP rfl rfl ?_
        refine zeGI rfl rfl (shL hb (by omega)) rfl rfl ?_
        refine zeKn (c := 1) rfl rfl rfl ?_
        refine zeP rfl rfl ?_
        refine zePI rfl rfl (shL hb (by omega)) rfl ?_
        refine zeP rfl rfl ?_
        refine zeGI rfl rfl (shL hb (by omega)) rfl rfl ?_
        refine zeKn (c := 1) rfl rfl rfl ?_
        refine zeP rfl rfl ?_
        refine zeGR rfl rfl (shM hb) rfl rfl ?_
        refine zeKn (c := 7) rfl rfl rfl ?_
        refine zeAL (k := 7) rfl (bb1000 hb (by omega)) (shE hb) rfl (by omega) ?_
        refine zeM rfl rfl rfl rfl rfl rfl rfl ?_
        refine zeRem rfl mx1 ?_
        refine zeB1 rfl rfl (fun h5 => ?_) (fun h5 => ?_)
        · refine zeP rfl rfl ?_
          refine zeGR rfl rfl (shM hb) rfl rfl ?_
          refine zeP rfl rfl ?_
          refine zeGI rfl rfl (shM hb) rfl rfl ?_
          refine zeP rfl rfl ?_
          refine zeKn (c := 3) rfl rfl rfl ?_
          refine zeP rfl rfl ?_
          refine zeCV rfl rfl rfl rfl (shLG hb) rfl (xc_logAdd (m := (zm2 ((zm2 ((x_reach m b t ((mv m (b + 5 + l) 0)) ((Int32.ofNat 1))).2) ((b + 10 + 7 * t)) 5 (Int32.ofNat 0))) ((b + 5 + l)) 2 ((((zm2 ((x_reach m b t ((mv m (b + 5 + l) 0)) ((Int32.ofNat 1))).2) ((b + 10 + 7 * t)) 5 (Int32.ofNat 0))) ((b + 5 + l)) 2) + (Int32.ofNat 1)))) (b := b) (t := (((zm2 ((zm2 ((x_reach m b t ((mv m (b + 5 + l) 0)) ((Int32.ofNat 1))).2) ((b + 10 + 7 * t)) 5 (Int32.ofNat 0))) ((b + 5 + l)) 2 ((((zm2 ((x_reach m b t ((mv m (b + 5 + l) 0)) ((Int32.ofNat 1))).2) ((b + 10 + 7 * t)) 5 (Int32.ofNat 0))) ((b + 5 + l)) 2) + (Int32.ofNat 1)))) b 7)) (u := (Int32.ofNat t)) (w := (Int32.ofNat 3)) (v := (Int32.ofNat l)) hb (zxn (by simp (disch := omega) only [gain_ne, zx_ne]) (hc.reach (t := t) (w := (mv m (b + 5 + l) 0)) (v := Int32.ofNat 1) ht).n) (zxb (by simp (disch := omega) only [gain_ne, zx_ne]) (hc.reach (t := t) (w := (mv m (b + 5 + l) 0)) (v := Int32.ofNat 1) ht).n60)) (by omega) ?_
          dsimp only [Option.toList, List.cons_append, List.nil_append]
          refine zeKn (c := 1) rfl rfl rfl ?_
          exact zeRe rfl rfl rfl rfl (by simp only [x_takePB, h1, h2, h4, h5, cond_true, cond_false] <;> rfl) (by simp only [x_takePB, h1, h2, h4, h5, cond_true, cond_false] <;> rfl)
        · refine zeP rfl rfl ?_
          refine zeKn (c := 1) rfl rfl rfl ?_
          refine zeCV rfl rfl rfl rfl (shL hb (by omega)) rfl (xc_gain (m := (zm2 ((zm2 ((x_reach m b t ((mv m (b + 5 + l) 0)) ((Int32.ofNat 1))).2) ((b + 10 + 7 * t)) 5 (Int32.ofNat 0))) ((b + 5 + l)) 2 ((((zm2 ((x_reach m b t ((mv m (b + 5 + l) 0)) ((Int32.ofNat 1))).2) ((b + 10 + 7 * t)) 5 (Int32.ofNat 0))) ((b + 5 + l)) 2) + (Int32.ofNat 1)))) (b := b) (l := l) (x := (Int32.ofNat 1)) hb hl) (by omega) ?_
          dsimp only [Option.toList, List.cons_append, List.nil_append]
          refine zeP rfl rfl ?_
          refine zeGR rfl rfl (shM hb) rfl rfl ?_
          refine zeP rfl rfl ?_
          refine zeGI rfl rfl (shM hb) rfl rfl ?_
          refine zeP rfl rfl ?_
          refine zeKn (c := 3) rfl rfl rfl ?_
          refine zeP rfl rfl ?_
          refine zeCV rfl rfl rfl rfl (shLG hb) rfl (xc_logAdd (m := (x_gain ((zm2 ((zm2 ((x_reach m b t ((mv m (b + 5 + l) 0)) ((Int32.ofNat 1))).2) ((b + 10 + 7 * t)) 5 (Int32.ofNat 0))) ((b + 5 + l)) 2 ((((zm2 ((x_reach m b t ((mv m (b + 5 + l) 0)) ((Int32.ofNat 1))).2) ((b + 10 + 7 * t)) 5 (Int32.ofNat 0))) ((b + 5 + l)) 2) + (Int32.ofNat 1)))) b l ((Int32.ofNat 1)))) (b := b) (t := (((x_gain ((zm2 ((zm2 ((x_reach m b t ((mv m (b + 5 + l) 0)) ((Int32.ofNat 1))).2) ((b + 10 + 7 * t)) 5 (Int32.ofNat 0))) ((b + 5 + l)) 2 ((((zm2 ((x_reach m b t ((mv m (b + 5 + l) 0)) ((Int32.ofNat 1))).2) ((b + 10 + 7 * t)) 5 (Int32.ofNat 0))) ((b + 5 + l)) 2) + (Int32.ofNat 1)))) b l ((Int32.ofNat 1)))) b 7)) (u := (Int32.ofNat t)) (w := (Int32.ofNat 3)) (v := (Int32.ofNat l)) hb (zxn (by simp (disch := omega) only [gain_ne, zx_ne]) (hc.reach (t := t) (w := (mv m (b + 5 + l) 0)) (v := Int32.ofNat 1) ht).n) (zxb (by simp (disch := omega) only [gain_ne, zx_ne]) (hc.reach (t := t) (w := (mv m (b + 5 + l) 0)) (v := Int32.ofNat 1) ht).n60)) (by omega) ?_
          dsimp only [Option.toList, List.cons_append, List.nil_append]
          refine zeKn (c := 1) rfl rfl rfl ?_
          exact zeRe rfl rfl rfl rfl (by simp only [x_takePB, h1, h2, h4, h5, cond_true, cond_false] <;> rfl) (by simp only [x_takePB, h1, h2, h4, h5, cond_true, cond_false] <;> rfl)
      · refine zeP rfl rfl ?_
        refine zeGR rfl rfl (shS hb (by omega)) rfl rfl ?_
        refine zeP rfl rfl ?_
        refine zeGI rfl rfl (shS hb (by omega)) rfl rfl ?_
        refine zeP rfl rfl ?_
        refine zeGI rfl rfl (shS hb (by omega)) rfl rfl ?_
        refine zeP rfl rfl ?_
        refine zeGI rfl rfl (shM hb) rfl rfl ?_
        refine zeCV rfl rfl rfl rfl (shG hb (by omega)) rfl (xc_begin (m := m) (b := b) (t := t) (x := (m ((b + 10 + 7 * t)) 3)) (y := (m ((b + 10 + 7 * t)) 4)) (z := (m b 7)) hb ht) (by omega) ?_
        dsimp only [Option.toList, List.cons_append, List.nil_append]
        refine zeP rfl rfl ?_
        refine zeGR rfl rfl (shS hb (by omega)) rfl rfl ?_
        refine zeP rfl rfl ?_
        refine zeCV rfl rfl rfl rfl (shG hb (by omega)) rfl (xc_leaveOut (m := (x_begin m b t ((m ((b + 10 + 7 * t)) 3)) ((m ((b + 10 + 7 * t)) 4)) ((m b 7)))) (b := b) (t := t) (l := (Int32.ofNat l)) hb ht (zxn begin_5 (hc.q ht)) (zxle begin_5 (hc.q4 ht))) (by omega) ?_
        dsimp only [Option.toList, List.cons_append, List.nil_append]
        refine zeP rfl rfl ?_
        refine zeGR rfl rfl (shS hb (by omega)) rfl rfl ?_
        refine zeP rfl rfl ?_
        refine zeP rfl rfl ?_
        refine zeGI rfl rfl (shL hb (by omega)) rfl rfl ?_
        refine zeCV rfl rfl rfl rfl (shM hb) rfl (xc_blockBit (m := (x_leaveOut ((x_begin m b t ((m ((b + 10 + 7 * t)) 3)) ((m ((b + 10 + 7 * t)) 4)) ((m b 7)))) b t ((Int32.ofNat l)))) (b := b) (w := (((x_leaveOut ((x_begin m b t ((m ((b + 10 + 7 * t)) 3)) ((m ((b + 10 + 7 * t)) 4)) ((m b 7)))) b t ((Int32.ofNat l)))) ((b + 5 + l)) 0)) hb) (by omega) ?_
        dsimp only [Option.toList, List.cons_append, List.nil_append]
        refine zePI rfl rfl (shG hb (by omega)) rfl ?_
        refine zeP rfl rfl ?_
        refine zeGR rfl rfl (shM hb) rfl rfl ?_
        refine zeP rfl rfl ?_
        refine zeGI rfl rfl (shM hb) rfl rfl ?_
        refine zeP rfl rfl ?_
        refine zeKn (c := 0) rfl rfl rfl ?_
        refine zeP rfl rfl ?_
        refine zeCV rfl rfl rfl rfl (shLG hb) rfl (xc_logAdd (m := (zm2 ((x_leaveOut ((x_begin m b t ((m ((b + 10 + 7 * t)) 3)) ((m ((b + 10 + 7 * t)) 4)) ((m b 7)))) b t ((Int32.ofNat l)))) ((b + 14 + 7 * t)) 6 (x_blockBit ((x_leaveOut ((x_begin m b t ((m ((b + 10 + 7 * t)) 3)) ((m ((b + 10 + 7 * t)) 4)) ((m b 7)))) b t ((Int32.ofNat l)))) b ((((x_leaveOut ((x_begin m b t ((m ((b + 10 + 7 * t)) 3)) ((m ((b + 10 + 7 * t)) 4)) ((m b 7)))) b t ((Int32.ofNat l)))) ((b + 5 + l)) 0))))) (b := b) (t := (((zm2 ((x_leaveOut ((x_begin m b t ((m ((b + 10 + 7 * t)) 3)) ((m ((b + 10 + 7 * t)) 4)) ((m b 7)))) b t ((Int32.ofNat l)))) ((b + 14 + 7 * t)) 6 (x_blockBit ((x_leaveOut ((x_begin m b t ((m ((b + 10 + 7 * t)) 3)) ((m ((b + 10 + 7 * t)) 4)) ((m b 7)))) b t ((Int32.ofNat l)))) b ((((x_leaveOut ((x_begin m b t ((m ((b + 10 + 7 * t)) 3)) ((m ((b + 10 + 7 * t)) 4)) ((m b 7)))) b t ((Int32.ofNat l)))) ((b + 5 + l)) 0))))) b 7)) (u := (Int32.ofNat t)) (w := (Int32.ofNat 0)) (v := (Int32.ofNat l)) hb (zxn (by simp (disch := omega) only [leaveOut_ne, begin_ne, zx_ne]) hc.n) (zxb (by simp (disch := omega) only [leaveOut_ne, begin_ne, zx_ne]) hc.n60)) (by omega) ?_
        dsimp only [Option.toList, List.cons_append, List.nil_append]
        refine zeKn (c := 1) rfl rfl rfl ?_
        exact zeRe rfl rfl rfl rfl (by simp only [x_takePB, h1, h2, h4, cond_true, cond_false] <;> rfl) (by simp only [x_takePB, h1, h2, h4, cond_true, cond_false] <;> rfl)
  · refine zeKn (c := 0) rfl rfl rfl ?_
    exact zeRe rfl rfl rfl rfl (by simp only [x_takePB, h1, cond_true, cond_false] <;> rfl) (by simp only [x_takePB, h1, cond_true, cond_false] <;> rfl)
noncomputable def x_takePlainly (m : Nat → Nat → Int32) (b : Nat) (t : Nat) (l : Nat) : Int32 × (Nat → Nat → Int32) := (x_takePB ((x_reach m b t ((mv m (b + 5 + l) 0)) ((-1))).2) b t l)
theorem xp_takePlainly {σ : Nat → Nat × (Nat → Int32)} {yy : (Nat → Nat → Int64) × Bool × Nat × Nat} {m : Nat → Nat → Int32} {b : Nat} {t : Nat} {l : Nat} {d : Nat} (hd : 4 ≤ d + 1) (hb : BB b) (hc : CG m b) (ht : t < 4) (hl : l < 4) : zEv σ (d + 1) 613 0 [some (.ref b), some (.int (Int32.ofNat t)), some (.ref (b + 10 + 7 * t)), some (.int (Int32.ofNat l)), none] [] (zS1, m, yy) (.inl (some (.int (x_takePlainly m b t l).1))) (zS1, ((x_takePlainly m b t l).2), yy) := by
  refine zeP rfl rfl ?_
  refine zeP rfl rfl ?_
  refine zeCV rfl rfl rfl rfl (shM hb) rfl (xc_lockAt (m := m) (b := b) (l := l) hb hl) (by omega) ?_
  dsimp only [Option.toList, List.cons_append, List.nil_append]
  refine zeP rfl rfl ?_
  refine zeP rfl rfl ?_
  refine zeP rfl rfl ?_
  refine zeP rfl rfl ?_
  refine zeGI rfl rfl (shL hb (by omega)) rfl rfl ?_
  rw [(hc.w hl).1]
  refine zeK (v := -1) rfl rfl rfl ?_
  refine zeCV rfl rfl rfl rfl (shM hb) rfl (xc_reach (m := m) (b := b) (t := t) (w := (mv m (b + 5 + l) 0)) (v := (-1)) hb hc ht (hc.w32 hl)) (by omega) ?_
  dsimp only [Option.toList, List.cons_append, List.nil_append]
  refine zeP rfl rfl ?_
  simp only [x_takePlainly, cond_true, cond_false]
  exact xp_takePB (b := b) (t := t) (l := l) (m := (x_reach m b t ((mv m (b + 5 + l) 0)) ((-1))).2) (by omega) hb (hc.reach ht) ht hl
theorem xc_takePlainly {σ : Nat → Nat × (Nat → Int32)} {yy : (Nat → Nat → Int64) × Bool × Nat × Nat} {m : Nat → Nat → Int32} {b : Nat} {t : Nat} {l : Nat} (hb : BB b) (hc : CG m b) (ht : t < 4) (hl : l < 4) : zF σ 4 613 [.ref b, .int (Int32.ofNat t), .ref (b + 10 + 7 * t), .int (Int32.ofNat l)] (zS1, m, yy) (.inl (some (.int (x_takePlainly m b t l).1))) (zS1, ((x_takePlainly m b t l).2), yy) := by
  intro d hd
  obtain ⟨d, rfl⟩ : ∃ k, d = k + 1 := ⟨d - 1, by omega⟩
  exact xp_takePlainly hd hb hc ht hl
noncomputable def x_takeGB (m : Nat → Nat → Int32) (b : Nat) (t : Nat) (l : Nat) (w : Nat) : Int32 × (Nat → Nat → Int32) := (bif zc1 .eq (x_leavesOut m b t ((Int32.ofNat l))) then (bif zc1 .eq (x_seenBy m b t w) then (bif zc2 .ge (m ((b + 14 + 7 * t)) 5) (m ((b + 3)) 2) then ((x_reach m b t w ((Int32.ofNat 1))).1, (x_reach m b t w ((Int32.ofNat 1))).2) else ((Int32.ofNat 1), (x_leaveOut m b t ((Int32.ofNat l))))) else ((x_fall m b t 4).1, (x_fall m b t 4).2)) else ((x_fall m b t 2).1, (x_fall m b t 2).2))
theorem xp_takeGB {σ : Nat → Nat × (Nat → Int32)} {yy : (Nat → Nat → Int64) × Bool × Nat × Nat} {m : Nat → Nat → Int32} {b : Nat} {t : Nat} {l : Nat} {w : Nat} {d : Nat} (hd : 4 ≤ d + 1) (hb : BB b) (hc : CG m b) (ht : t < 4) (hl : l < 4) (hw : w < 32) : zEv σ (d + 1) 614 24 [some (.ref b), some (.int (Int32.ofNat t)), some (.ref (b + 10 + 7 * t)), some (.int (Int32.ofNat l)), some (.int (Int32.ofNat w))] [] (zS1, m, yy) (.inl (some (.int (x_takeGB m b t l w).1))) (zS1, ((x_takeGB m b t l w).2), yy) := by
  refine zeP rfl rfl ?_
  refine zeGR rfl rfl (shS hb (by omega)) rfl rfl ?_
  refine zeP rfl rfl ?_
  refine zeCV rfl rfl rfl rfl (shG hb (by omega)) rfl (xc_leavesOut (m := m) (b := b) (t := t) (l := (Int32.ofNat l)) hb ht (hc.q ht) (hc.q4 ht)) (by omega) ?_
  dsimp only [Option.toList, List.cons_append, List.nil_append]
  refine zeB1 rfl rfl (fun h1 => ?_) (fun h1 => ?_)
  · refine zeP rfl rfl ?_
    refine zeP rfl rfl ?_
    refine zeP rfl rfl ?_
    refine zeCV rfl rfl rfl rfl (shM hb) rfl (xc_seenBy (m := m) (b := b) (t := t) (w := w) hb ht hw) (by omega) ?_
    dsimp only [Option.toList, List.cons_append, List.nil_append]
    refine zeB1 rfl rfl (fun h2 => ?_) (fun h2 => ?_)
    · refine zeP rfl rfl ?_
      refine zeGR rfl rfl (shS hb (by omega)) rfl rfl ?_
      refine zeGI rfl rfl (shG hb (by omega)) rfl rfl ?_
      refine zeP rfl rfl ?_
      refine zeGR rfl rfl (shM hb) rfl rfl ?_
      refine zeKn (c := 2) rfl rfl rfl ?_
      refine zeAL (k := 2) rfl (bb1000 hb (by omega)) (shE hb) rfl (by omega) ?_
      refine zeB2 rfl rfl (fun h3 => ?_) (fun h3 => ?_)
      · refine zeP rfl rfl ?_
        refine zeP rfl rfl ?_
        refine zeP rfl rfl ?_
        refine zeKn (c := 1) rfl rfl rfl ?_
        refine zeCV rfl rfl rfl rfl (shM hb) rfl (xc_reach (m := m) (b := b) (t := t) (w := w) (v := (Int32.ofNat 1)) hb hc ht hw) (by omega) ?_
        dsimp only [Option.toList, List.cons_append, List.nil_append]
        exact zeRe rfl rfl rfl rfl (by simp only [x_takeGB, h1, h2, h3, cond_true, cond_false] <;> rfl) (by simp only [x_takeGB, h1, h2, h3, cond_true, cond_false] <;> rfl)
      · refine zeP rfl rfl ?_
        refine zeGR rfl rfl (shS hb (by omega)) rfl rfl ?_
        refine zeP rfl rfl ?_
        refine zeCV rfl rfl rfl rfl (shG hb (by omega)) rfl (xc_leaveOut (m := m) (b := b) (t := t) (l := (Int32.ofNat l)) hb ht (hc.q ht) (hc.q4 ht)) (by omega) ?_
        dsimp only [Option.toList, List.cons_append, List.nil_append]
        refine zeKn (c := 1) rfl rfl rfl ?_
        exact zeRe rfl rfl rfl rfl (by simp only [x_takeGB, h1, h2, h3, cond_true, cond_false] <;> rfl) (by simp only [x_takeGB, h1, h2, h3, cond_true, cond_false] <;> rfl)
    · refine zeP rfl rfl ?_
      refine zeP rfl rfl ?_
      refine zeKn (c := 4) rfl rfl rfl ?_
      refine zeCV rfl rfl rfl rfl (shM hb) rfl (xc_fall (m := m) (b := b) (t := t) (y := 4) hb (by omega) (by omega) (hc.l (by omega)) (hc.l4 (by omega)) hc.n hc.n60) (by omega) ?_
      dsimp only [Option.toList, List.cons_append, List.nil_append]
      exact zeRe rfl rfl rfl rfl (by simp only [x_takeGB, h1, h2, cond_true, cond_false] <;> rfl) (by simp only [x_takeGB, h1, h2, cond_true, cond_false] <;> rfl)
  · refine zeP rfl rfl ?_
    refine zeP rfl rfl ?_
    refine zeKn (c := 2) rfl rfl rfl ?_
    refine zeCV rfl rfl rfl rfl (shM hb) rfl (xc_fall (m := m) (b := b) (t := t) (y := 2) hb (by omega) (by omega) (hc.l (by omega)) (hc.l4 (by omega)) hc.n hc.n60) (by omega) ?_
    dsimp only [Option.toList, List.cons_append, List.nil_append]
    exact zeRe rfl rfl rfl rfl (by simp only [x_takeGB, h1, cond_true, cond_false] <;> rfl) (by simp only [x_takeGB, h1, cond_true, cond_false] <;> rfl)
noncomputable def x_takeGuessing (m : Nat → Nat → Int32) (b : Nat) (t : Nat) (l : Nat) : Int32 × (Nat → Nat → Int32) := (bif zc2 .ne (x_reach m b t ((mv m (b + 5 + l) 0)) ((-1))).1 (-1) then (x_takeGB ((x_reach m b t ((mv m (b + 5 + l) 0)) ((-1))).2) b t l ((mv m (b + 5 + l) 0))) else ((-1), (x_reach m b t ((mv m (b + 5 + l) 0)) ((-1))).2))
theorem xp_takeGuessing {σ : Nat → Nat × (Nat → Int32)} {yy : (Nat → Nat → Int64) × Bool × Nat × Nat} {m : Nat → Nat → Int32} {b : Nat} {t : Nat} {l : Nat} {d : Nat} (hd : 4 ≤ d + 1) (hb : BB b) (hc : CG m b) (ht : t < 4) (hl : l < 4) : zEv σ (d + 1) 614 0 [some (.ref b), some (.int (Int32.ofNat t)), some (.ref (b + 10 + 7 * t)), some (.int (Int32.ofNat l)), none] [] (zS1, m, yy) (.inl (some (.int (x_takeGuessing m b t l).1))) (zS1, ((x_takeGuessing m b t l).2), yy) := by
  refine zeP rfl rfl ?_
  refine zeP rfl rfl ?_
  refine zeCV rfl rfl rfl rfl (shM hb) rfl (xc_lockAt (m := m) (b := b) (l := l) hb hl) (by omega) ?_
  dsimp only [Option.toList, List.cons_append, List.nil_append]
  refine zeGI rfl rfl (shL hb (by omega)) rfl rfl ?_
  rw [(hc.w hl).1]
  refine zeP rfl rfl ?_
  refine zeP rfl rfl ?_
  refine zeP rfl rfl ?_
  refine zeP rfl rfl ?_
  refine zeK (v := -1) rfl rfl rfl ?_
  refine zeCV rfl rfl rfl rfl (shM hb) rfl (xc_reach (m := m) (b := b) (t := t) (w := (mv m (b + 5 + l) 0)) (v := (-1)) hb hc ht (hc.w32 hl)) (by omega) ?_
  dsimp only [Option.toList, List.cons_append, List.nil_append]
  refine zeK (v := -1) rfl rfl rfl ?_
  refine zeB2 rfl rfl (fun h1 => ?_) (fun h1 => ?_)
  · simp only [x_takeGuessing, h1, cond_true, cond_false]
    exact xp_takeGB (b := b) (t := t) (l := l) (w := (mv m (b + 5 + l) 0)) (m := (x_reach m b t ((mv m (b + 5 + l) 0)) ((-1))).2) (by omega) hb (hc.reach ht) ht hl (hc.w32 hl)
  · refine zeK (v := -1) rfl rfl rfl ?_
    exact zeRe rfl rfl rfl rfl (by simp only [x_takeGuessing, h1, cond_true, cond_false] <;> rfl) (by simp only [x_takeGuessing, h1, cond_true, cond_false] <;> rfl)
theorem xc_takeGuessing {σ : Nat → Nat × (Nat → Int32)} {yy : (Nat → Nat → Int64) × Bool × Nat × Nat} {m : Nat → Nat → Int32} {b : Nat} {t : Nat} {l : Nat} (hb : BB b) (hc : CG m b) (ht : t < 4) (hl : l < 4) : zF σ 4 614 [.ref b, .int (Int32.ofNat t), .ref (b + 10 + 7 * t), .int (Int32.ofNat l)] (zS1, m, yy) (.inl (some (.int (x_takeGuessing m b t l).1))) (zS1, ((x_takeGuessing m b t l).2), yy) := by
  intro d hd
  obtain ⟨d, rfl⟩ : ∃ k, d = k + 1 := ⟨d - 1, by omega⟩
  exact xp_takeGuessing hd hb hc ht hl
noncomputable def xl_keep (b : Nat) (t : Nat) (l : Nat) : Nat → Nat → (Nat → Nat → Int32) → (Nat → Nat → Int32)
  | 0, k, m => (x_logAdd ((zm2 ((x_gain ((zm2 ((zm2 ((x_close m b t)) ((b + 10 + 7 * t)) 5 (Int32.ofNat 0))) ((b + 10 + 7 * t)) 6 ((((zm2 ((x_close m b t)) ((b + 10 + 7 * t)) 5 (Int32.ofNat 0))) ((b + 10 + 7 * t)) 6) + (Int32.ofNat 1)))) b l ((((zm2 ((zm2 ((x_close m b t)) ((b + 10 + 7 * t)) 5 (Int32.ofNat 0))) ((b + 10 + 7 * t)) 6 ((((zm2 ((x_close m b t)) ((b + 10 + 7 * t)) 5 (Int32.ofNat 0))) ((b + 10 + 7 * t)) 6) + (Int32.ofNat 1)))) ((b + 3)) 5)))) ((b + 5 + l)) 3 ((((x_gain ((zm2 ((zm2 ((x_close m b t)) ((b + 10 + 7 * t)) 5 (Int32.ofNat 0))) ((b + 10 + 7 * t)) 6 ((((zm2 ((x_close m b t)) ((b + 10 + 7 * t)) 5 (Int32.ofNat 0))) ((b + 10 + 7 * t)) 6) + (Int32.ofNat 1)))) b l ((((zm2 ((zm2 ((x_close m b t)) ((b + 10 + 7 * t)) 5 (Int32.ofNat 0))) ((b + 10 + 7 * t)) 6 ((((zm2 ((x_close m b t)) ((b + 10 + 7 * t)) 5 (Int32.ofNat 0))) ((b + 10 + 7 * t)) 6) + (Int32.ofNat 1)))) ((b + 3)) 5)))) ((b + 5 + l)) 3) + (Int32.ofNat 1)))) b ((((zm2 ((x_gain ((zm2 ((zm2 ((x_close m b t)) ((b + 10 + 7 * t)) 5 (Int32.ofNat 0))) ((b + 10 + 7 * t)) 6 ((((zm2 ((x_close m b t)) ((b + 10 + 7 * t)) 5 (Int32.ofNat 0))) ((b + 10 + 7 * t)) 6) + (Int32.ofNat 1)))) b l ((((zm2 ((zm2 ((x_close m b t)) ((b + 10 + 7 * t)) 5 (Int32.ofNat 0))) ((b + 10 + 7 * t)) 6 ((((zm2 ((x_close m b t)) ((b + 10 + 7 * t)) 5 (Int32.ofNat 0))) ((b + 10 + 7 * t)) 6) + (Int32.ofNat 1)))) ((b + 3)) 5)))) ((b + 5 + l)) 3 ((((x_gain ((zm2 ((zm2 ((x_close m b t)) ((b + 10 + 7 * t)) 5 (Int32.ofNat 0))) ((b + 10 + 7 * t)) 6 ((((zm2 ((x_close m b t)) ((b + 10 + 7 * t)) 5 (Int32.ofNat 0))) ((b + 10 + 7 * t)) 6) + (Int32.ofNat 1)))) b l ((((zm2 ((zm2 ((x_close m b t)) ((b + 10 + 7 * t)) 5 (Int32.ofNat 0))) ((b + 10 + 7 * t)) 6 ((((zm2 ((x_close m b t)) ((b + 10 + 7 * t)) 5 (Int32.ofNat 0))) ((b + 10 + 7 * t)) 6) + (Int32.ofNat 1)))) ((b + 3)) 5)))) ((b + 5 + l)) 3) + (Int32.ofNat 1)))) b 7)) ((Int32.ofNat t)) ((Int32.ofNat 1)) ((Int32.ofNat l)))
  | n + 1, k, m => (xl_keep b t l n ((k + 1)) ((zm2 m ((b + 1)) k (x_seenBy m b t k))))
theorem xw_keep {σ : Nat → Nat × (Nat → Int32)} {yy : (Nat → Nat → Int64) × Bool × Nat × Nat} {b : Nat} {t : Nat} {l : Nat} {d : Nat} (hd : 3 ≤ d + 1) (hb : BB b) (ht : t < 4) (hl : l < 4) : ∀ (n : Nat) (k : Nat) (m : Nat → Nat → Int32), k + n = 32 → m (b + 40) 2 = Int32.ofNat (mv m (b + 40) 2) → mv m (b + 40) 2 < 60 → zEv σ (d + 1) 616 3 [some (.ref b), some (.int (Int32.ofNat t)), some (.ref (b + 10 + 7 * t)), some (.int (Int32.ofNat l)), some (.int (Int32.ofNat k))] [] (zS1, m, yy) (.inl none) (zS1, ((xl_keep b t l n k m)), yy) := by
  intro n
  induction n with
  | zero =>
    intro k m hk hn hn60
    refine zeP rfl rfl ?_
    refine zeKn (c := 32) rfl rfl rfl ?_
    refine zeT2 rfl rfl (zcge (by omega) (by omega) (by omega)) ?_
    refine zeP rfl rfl ?_
    refine zeGR rfl rfl (shS hb (by omega)) rfl rfl ?_
    refine zeCV rfl rfl rfl rfl (shG hb (by omega)) rfl (xc_close (m := m) (b := b) (t := t) hb ht) (by omega) ?_
    dsimp only [Option.toList, List.cons_append, List.nil_append]
    refine zeP rfl rfl ?_
    refine zeKn (c := 0) rfl rfl rfl ?_
    refine zePI rfl rfl (shS hb (by omega)) rfl ?_
    refine zeP rfl rfl ?_
    refine zeP rfl rfl ?_
    refine zeGI rfl rfl (shS hb (by omega)) rfl rfl ?_
    refine zeKn (c := 1) rfl rfl rfl ?_
    refine zeP rfl rfl ?_
    refine zePI rfl rfl (shS hb (by omega)) rfl ?_
    refine zeP rfl rfl ?_
    refine zeP rfl rfl ?_
    refine zeCV rfl rfl rfl rfl (shM hb) rfl (xc_lockAt (m := (zm2 ((zm2 ((x_close m b t)) ((b + 10 + 7 * t)) 5 (Int32.ofNat 0))) ((b + 10 + 7 * t)) 6 ((((zm2 ((x_close m b t)) ((b + 10 + 7 * t)) 5 (Int32.ofNat 0))) ((b + 10 + 7 * t)) 6) + (Int32.ofNat 1)))) (b := b) (l := l) hb hl) (by omega) ?_
    dsimp only [Option.toList, List.cons_append, List.nil_append]
    refine zeP rfl rfl ?_
    refine zeGR rfl rfl (shM hb) rfl rfl ?_
    refine zeKn (c := 5) rfl rfl rfl ?_
    refine zeAL (k := 5) rfl (bb1000 hb (by omega)) (shE hb) rfl (by omega) ?_
    refine zeCV rfl rfl rfl rfl (shL hb (by omega)) rfl (xc_gain (m := (zm2 ((zm2 ((x_close m b t)) ((b + 10 + 7 * t)) 5 (Int32.ofNat 0))) ((b + 10 + 7 * t)) 6 ((((zm2 ((x_close m b t)) ((b + 10 + 7 * t)) 5 (Int32.ofNat 0))) ((b + 10 + 7 * t)) 6) + (Int32.ofNat 1)))) (b := b) (l := l) (x := (((zm2 ((zm2 ((x_close m b t)) ((b + 10 + 7 * t)) 5 (Int32.ofNat 0))) ((b + 10 + 7 * t)) 6 ((((zm2 ((x_close m b t)) ((b + 10 + 7 * t)) 5 (Int32.ofNat 0))) ((b + 10 + 7 * t)) 6) + (Int32.ofNat 1)))) ((b + 3)) 5)) hb hl) (by omega) ?_
    dsimp only [Option.toList, List.cons_append, List.nil_append]
    refine zeP rfl rfl ?_
    refine zeP rfl rfl ?_
    refine zeCV rfl rfl rfl rfl (shM hb) rfl (xc_lockAt (m := (x_gain ((zm2 ((zm2 ((x_close m b t)) ((b + 10 + 7 * t)) 5 (Int32.ofNat 0))) ((b + 10 + 7 * t)) 6 ((((zm2 ((x_close m b t)) ((b + 10 + 7 * t)) 5 (Int32.ofNat 0))) ((b + 10 + 7 * t)) 6) + (Int32.ofNat 1)))) b l ((((zm2 ((zm2 ((x_close m b t)) ((b + 10 + 7 * t)) 5 (Int32.ofNat 0))) ((b + 10 + 7 * t)) 6 ((((zm2 ((x_close m b t)) ((b + 10 + 7 * t)) 5 (Int32.ofNat 0))) ((b + 10 + 7 * t)) 6) + (Int32.ofNat 1)))) ((b + 3)) 5)))) (b := b) (l := l) hb hl) (by omega) ?_
    dsimp only [Option.toList, List.cons_append, List.nil_append]
    refine zeP rfl rfl ?_
    refine zeGI rfl rfl (shL hb (by omega)) rfl rfl ?_
    refine zeKn (c := 1) rfl rfl rfl ?_
    refine zeP rfl rfl ?_
    refine zePI rfl rfl (shL hb (by omega)) rfl ?_
    refine zeP rfl rfl ?_
    refine zeGR rfl rfl (shM hb) rfl rfl ?_
    refine zeP rfl rfl ?_
    refine zeGI rfl rfl (shM hb) rfl rfl ?_
    refine zeP rfl rfl ?_
    refine zeKn (c := 1) rfl rfl rfl ?_
    refine zeP rfl rfl ?_
    refine zeCV rfl rfl rfl rfl (shLG hb) rfl (xc_logAdd (m := (zm2 ((x_gain ((zm2 ((zm2 ((x_close m b t)) ((b + 10 + 7 * t)) 5 (Int32.ofNat 0))) ((b + 10 + 7 * t)) 6 ((((zm2 ((x_close m b t)) ((b + 10 + 7 * t)) 5 (Int32.ofNat 0))) ((b + 10 + 7 * t)) 6) + (Int32.ofNat 1)))) b l ((((zm2 ((zm2 ((x_close m b t)) ((b + 10 + 7 * t)) 5 (Int32.ofNat 0))) ((b + 10 + 7 * t)) 6 ((((zm2 ((x_close m b t)) ((b + 10 + 7 * t)) 5 (Int32.ofNat 0))) ((b + 10 + 7 * t)) 6) + (Int32.ofNat 1)))) ((b + 3)) 5)))) ((b + 5 + l)) 3 ((((x_gain ((zm2 ((zm2 ((x_close m b t)) ((b + 10 + 7 * t)) 5 (Int32.ofNat 0))) ((b + 10 + 7 * t)) 6 ((((zm2 ((x_close m b t)) ((b + 10 + 7 * t)) 5 (Int32.ofNat 0))) ((b + 10 + 7 * t)) 6) + (Int32.ofNat 1)))) b l ((((zm2 ((zm2 ((x_close m b t)) ((b + 10 + 7 * t)) 5 (Int32.ofNat 0))) ((b + 10 + 7 * t)) 6 ((((zm2 ((x_close m b t)) ((b + 10 + 7 * t)) 5 (Int32.ofNat 0))) ((b + 10 + 7 * t)) 6) + (Int32.ofNat 1)))) ((b + 3)) 5)))) ((b + 5 + l)) 3) + (Int32.ofNat 1)))) (b := b) (t := (((zm2 ((x_gain ((zm2 ((zm2 ((x_close m b t)) ((b + 10 + 7 * t)) 5 (Int32.ofNat 0))) ((b + 10 + 7 * t)) 6 ((((zm2 ((x_close m b t)) ((b + 10 + 7 * t)) 5 (Int32.ofNat 0))) ((b + 10 + 7 * t)) 6) + (Int32.ofNat 1)))) b l ((((zm2 ((zm2 ((x_close m b t)) ((b + 10 + 7 * t)) 5 (Int32.ofNat 0))) ((b + 10 + 7 * t)) 6 ((((zm2 ((x_close m b t)) ((b + 10 + 7 * t)) 5 (Int32.ofNat 0))) ((b + 10 + 7 * t)) 6) + (Int32.ofNat 1)))) ((b + 3)) 5)))) ((b + 5 + l)) 3 ((((x_gain ((zm2 ((zm2 ((x_close m b t)) ((b + 10 + 7 * t)) 5 (Int32.ofNat 0))) ((b + 10 + 7 * t)) 6 ((((zm2 ((x_close m b t)) ((b + 10 + 7 * t)) 5 (Int32.ofNat 0))) ((b + 10 + 7 * t)) 6) + (Int32.ofNat 1)))) b l ((((zm2 ((zm2 ((x_close m b t)) ((b + 10 + 7 * t)) 5 (Int32.ofNat 0))) ((b + 10 + 7 * t)) 6 ((((zm2 ((x_close m b t)) ((b + 10 + 7 * t)) 5 (Int32.ofNat 0))) ((b + 10 + 7 * t)) 6) + (Int32.ofNat 1)))) ((b + 3)) 5)))) ((b + 5 + l)) 3) + (Int32.ofNat 1)))) b 7)) (u := (Int32.ofNat t)) (w := (Int32.ofNat 1)) (v := (Int32.ofNat l)) hb (zxn (by simp (disch := omega) only [gain_ne, close_ne, zx_ne]) hn) (zxb (by simp (disch := omega) only [gain_ne, close_ne, zx_ne]) hn60)) (by omega) ?_
    dsimp only [Option.toList, List.cons_append, List.nil_append]
    exact zeRe rfl rfl rfl rfl (by rfl) (by rfl)
  | succ n ih =>
    intro k m hk hn hn60
    refine zeP rfl rfl ?_
    refine zeKn (c := 32) rfl rfl rfl ?_
    refine zeF2 rfl rfl (zcge_f (by omega) (by omega) (by omega)) ?_
    refine zeP rfl rfl ?_
    refine zeGR rfl rfl (shM hb) rfl rfl ?_
    refine zeP rfl rfl ?_
    refine zeP rfl rfl ?_
    refine zeP rfl rfl ?_
    refine zeP rfl rfl ?_
    refine zeCV rfl rfl rfl rfl (shM hb) rfl (xc_seenBy (m := m) (b := b) (t := t) (w := k) hb ht (by omega)) (by omega) ?_
    dsimp only [Option.toList, List.cons_append, List.nil_append]
    refine zeAS (k := k) rfl (shW hb) rfl (by omega) ?_
    refine zeInc rfl rfl ?_
    refine zeP rfl rfl ?_
    simp only [xl_keep, cond_true, cond_false]
    exact ih ((k + 1))  ((zm2 m ((b + 1)) k (x_seenBy m b t k))) (by omega) (zxn (zx_ne _ _ _ (by omega)) hn) (zxb (zx_ne _ _ _ (by omega)) hn60)
noncomputable def x_keep (m : Nat → Nat → Int32) (b : Nat) (t : Nat) (l : Nat) : (Nat → Nat → Int32) := (xl_keep b t l 32 0 m)
theorem xp_keep {σ : Nat → Nat × (Nat → Int32)} {yy : (Nat → Nat → Int64) × Bool × Nat × Nat} {m : Nat → Nat → Int32} {b : Nat} {t : Nat} {l : Nat} {d : Nat} (hd : 3 ≤ d + 1) (hb : BB b) (ht : t < 4) (hl : l < 4) (hn : m (b + 40) 2 = Int32.ofNat (mv m (b + 40) 2)) (hn60 : mv m (b + 40) 2 < 60) : zEv σ (d + 1) 616 0 [some (.ref b), some (.int (Int32.ofNat t)), some (.ref (b + 10 + 7 * t)), some (.int (Int32.ofNat l)), none] [] (zS1, m, yy) (.inl none) (zS1, ((x_keep m b t l)), yy) := by
  refine zeKn (c := 0) rfl rfl rfl ?_
  refine zeP rfl rfl ?_
  simp only [x_keep, cond_true, cond_false]
  exact xw_keep (b := b) (t := t) (l := l) (by omega) hb ht hl 32 (0)  m (by omega) hn hn60
theorem xc_keep {σ : Nat → Nat × (Nat → Int32)} {yy : (Nat → Nat → Int64) × Bool × Nat × Nat} {m : Nat → Nat → Int32} {b : Nat} {t : Nat} {l : Nat} (hb : BB b) (ht : t < 4) (hl : l < 4) (hn : m (b + 40) 2 = Int32.ofNat (mv m (b + 40) 2)) (hn60 : mv m (b + 40) 2 < 60) : zF σ 3 616 [.ref b, .int (Int32.ofNat t), .ref (b + 10 + 7 * t), .int (Int32.ofNat l)] (zS1, m, yy) (.inl none) (zS1, ((x_keep m b t l)), yy) := by
  intro d hd
  obtain ⟨d, rfl⟩ : ∃ k, d = k + 1 := ⟨d - 1, by omega⟩
  exact xp_keep hd hb ht hl hn hn60
