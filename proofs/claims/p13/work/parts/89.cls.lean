noncomputable def x_dropLock (m : Nat → Nat → Int32) (b : Nat) (t : Nat) (l : Nat) : Int32 × (Nat → Nat → Int32) := (bif zc1 .eq (m ((b + 14 + 7 * t)) 0) then (bif zc2 .ne (x_reach m b t ((mv m (b + 5 + l) 0)) ((Int32.ofNat 0))).1 (Int32.ofNat 1) then ((x_reach m b t ((mv m (b + 5 + l) 0)) ((Int32.ofNat 0))).1, (x_reach m b t ((mv m (b + 5 + l) 0)) ((Int32.ofNat 0))).2) else (bif zc1 .ne (((x_reach m b t ((mv m (b + 5 + l) 0)) ((Int32.ofNat 0))).2) ((b + 14 + 7 * t)) 0) then ((x_reach m b t ((mv m (b + 5 + l) 0)) ((Int32.ofNat 0))).1, (x_reach m b t ((mv m (b + 5 + l) 0)) ((Int32.ofNat 0))).2) else ((x_reach m b t ((mv m (b + 5 + l) 0)) ((Int32.ofNat 0))).1, (x_logAdd ((x_reach m b t ((mv m (b + 5 + l) 0)) ((Int32.ofNat 0))).2) b ((((x_reach m b t ((mv m (b + 5 + l) 0)) ((Int32.ofNat 0))).2) b 7)) ((Int32.ofNat t)) ((Int32.ofNat 4)) ((Int32.ofNat l)))))) else (bif zc1 .eq (x_leavesOut m b t ((Int32.ofNat l))) then (bif zc2 .ne (x_reach m b t ((mv m (b + 5 + l) 0)) ((Int32.ofNat 0))).1 (Int32.ofNat 1) then ((x_reach m b t ((mv m (b + 5 + l) 0)) ((Int32.ofNat 0))).1, (x_reach m b t ((mv m (b + 5 + l) 0)) ((Int32.ofNat 0))).2) else (bif zc1 .ne (((x_reach m b t ((mv m (b + 5 + l) 0)) ((Int32.ofNat 0))).2) ((b + 14 + 7 * t)) 0) then ((x_reach m b t ((mv m (b + 5 + l) 0)) ((Int32.ofNat 0))).1, (x_reach m b t ((mv m (b + 5 + l) 0)) ((Int32.ofNat 0))).2) else ((x_reach m b t ((mv m (b + 5 + l) 0)) ((Int32.ofNat 0))).1, (x_logAdd ((x_reach m b t ((mv m (b + 5 + l) 0)) ((Int32.ofNat 0))).2) b ((((x_reach m b t ((mv m (b + 5 + l) 0)) ((Int32.ofNat 0))).2) b 7)) ((Int32.ofNat t)) ((Int32.ofNat 4)) ((Int32.ofNat l)))))) else (bif zc2 .eq (x_latest m b t) (Int32.ofNat l) then (bif zc1 .ne (((zm2 m ((b + 14 + 7 * t)) 5 ((m ((b + 14 + 7 * t)) 5) - (Int32.ofNat 1)))) ((b + 14 + 7 * t)) 5) then ((Int32.ofNat 1), (zm2 m ((b + 14 + 7 * t)) 5 ((m ((b + 14 + 7 * t)) 5) - (Int32.ofNat 1)))) else ((Int32.ofNat 1), (x_keep ((zm2 m ((b + 14 + 7 * t)) 5 ((m ((b + 14 + 7 * t)) 5) - (Int32.ofNat 1)))) b t l))) else ((x_fall m b t 2).1, (x_fall m b t 2).2))))
theorem xp_dropLock {σ : Nat → Nat × (Nat → Int32)} {yy : (Nat → Nat → Int64) × Bool × Nat × Nat} {m : Nat → Nat → Int32} {b : Nat} {t : Nat} {l : Nat} {d : Nat} (hd : 4 ≤ d + 1) (hb : BB b) (hc : CG m b) (ht : t < 4) (hl : l < 4) : zEv σ (d + 1) 615 0 [some (.ref b), some (.int (Int32.ofNat t)), some (.ref (b + 10 + 7 * t)), some (.int (Int32.ofNat l)), none] [] (zS1, m, yy) (.inl (some (.int (x_dropLock m b t l).1))) (zS1, ((x_dropLock m b t l).2), yy) := by
  refine zeP rfl rfl ?_
  refine zeGR rfl rfl (shS hb (by omega)) rfl rfl ?_
  refine zeGI rfl rfl (shG hb (by omega)) rfl rfl ?_
  refine zeB1 rfl rfl (fun h1 => ?_) (fun h1 => ?_)
  · refine zeP rfl rfl ?_
    refine zeP rfl rfl ?_
    refine zeP rfl rfl ?_
    refine zeP rfl rfl ?_
    refine zeCV rfl rfl rfl rfl (shM hb) rfl (xc_lockAt (m := m) (b := b) (l := l) hb hl) (by omega) ?_
    dsimp only [Option.toList, List.cons_append, List.nil_append]
    refine zeGI rfl rfl (shL hb (by omega)) rfl rfl ?_
    rw [(hc.w hl).1]
    refine zeKn (c := 0) rfl rfl rfl ?_
    refine zeCV rfl rfl rfl rfl (shM hb) rfl (xc_reach (m := m) (b := b) (t := t) (w := (mv m (b + 5 + l) 0)) (v := (Int32.ofNat 0)) hb hc ht (hc.w32 hl)) (by omega) ?_
    dsimp only [Option.toList, List.cons_append, List.nil_append]
    refine zeP rfl rfl ?_
    refine zeP rfl rfl ?_
    refine zeKn (c := 1) rfl rfl rfl ?_
    refine zeB2 rfl rfl (fun h2 => ?_) (fun h2 => ?_)
    · refine zeP rfl rfl ?_
      exact zeRe rfl rfl rfl rfl (by simp only [x_dropLock, h1, h2, cond_true, cond_false] <;> rfl) (by simp only [x_dropLock, h1, h2, cond_true, cond_false] <;> rfl)
    · refine zeP rfl rfl ?_
      refine zeGR rfl rfl (shS hb (by omega)) rfl rfl ?_
      refine zeGI rfl rfl (shG hb (by omega)) rfl rfl ?_
      refine zeB1 rfl rfl (fun h3 => ?_) (fun h3 => ?_)
      · refine zeP rfl rfl ?_
        exact zeRe rfl rfl rfl rfl (by simp only [x_dropLock, h1, h2, h3, cond_true, cond_false] <;> rfl) (by simp only [x_dropLock, h1, h2, h3, cond_true, cond_false] <;> rfl)
      · refine zeP rfl rfl ?_
        refine zeGR rfl rfl (shM hb) rfl rfl ?_
        refine zeP rfl rfl ?_
        refine zeGI rfl rfl (shM hb) rfl rfl ?_
        refine zeP rfl rfl ?_
        refine zeKn (c := 4) rfl rfl rfl ?_
        refine zeP rfl rfl ?_
        refine zeCV rfl rfl rfl rfl (shLG hb) rfl (xc_logAdd (m := (x_reach m b t ((mv m (b + 5 + l) 0)) ((Int32.ofNat 0))).2) (b := b) (t := (((x_reach m b t ((mv m (b + 5 + l) 0)) ((Int32.ofNat 0))).2) b 7)) (u := (Int32.ofNat t)) (w := (Int32.ofNat 4)) (v := (Int32.ofNat l)) hb (zxn (by simp (disch := omega) only [zx_ne]) (hc.reach (t := t) (w := (mv m (b + 5 + l) 0)) (v := Int32.ofNat 0) ht).n) (zxb (by simp (disch := omega) only [zx_ne]) (hc.reach (t := t) (w := (mv m (b + 5 + l) 0)) (v := Int32.ofNat 0) ht).n60)) (by omega) ?_
        dsimp only [Option.toList, List.cons_append, List.nil_append]
        refine zeP rfl rfl ?_
        exact zeRe rfl rfl rfl rfl (by simp only [x_dropLock, h1, h2, h3, cond_true, cond_false] <;> rfl) (by simp only [x_dropLock, h1, h2, h3, cond_true, cond_false] <;> rfl)
  · refine zeP rfl rfl ?_
    refine zeGR rfl rfl (shS hb (by omega)) rfl rfl ?_
    refine zeP rfl rfl ?_
    refine zeCV rfl rfl rfl rfl (shG hb (by omega)) rfl (xc_leavesOut (m := m) (b := b) (t := t) (l := (Int32.ofNat l)) hb ht (hc.q ht) (hc.q4 ht)) (by omega) ?_
    dsimp only [Option.toList, List.cons_append, List.nil_append]
    refine zeB1 rfl rfl (fun h4 => ?_) (fun h4 => ?_)
    · refine zeP rfl rfl ?_
      refine zeP rfl rfl ?_
      refine zeP rfl rfl ?_
      refine zeP rfl rfl ?_
      refine zeCV rfl rfl rfl rfl (shM hb) rfl (xc_lockAt (m := m) (b := b) (l := l) hb hl) (by omega) ?_
      dsimp only [Option.toList, List.cons_append, List.nil_append]
      refine zeGI rfl rfl (shL hb (by omega)) rfl rfl ?_
      rw [(hc.w hl).1]
      refine zeKn (c := 0) rfl rfl rfl ?_
      refine zeCV rfl rfl rfl rfl (shM hb) rfl (xc_reach (m := m) (b := b) (t := t) (w := (mv m (b + 5 + l) 0)) (v := (Int32.ofNat 0)) hb hc ht (hc.w32 hl)) (by omega) ?_
      dsimp only [Option.toList, List.cons_append, List.nil_append]
      refine zeP rfl rfl ?_
      refine zeP rfl rfl ?_
      refine zeKn (c := 1) rfl rfl rfl ?_
      refine zeB2 rfl rfl (fun h5 => ?_) (fun h5 => ?_)
      · refine zeP rfl rfl ?_
        exact zeRe rfl rfl rfl rfl (by simp only [x_dropLock, h1, h4, h5, cond_true, cond_false] <;> rfl) (by simp only [x_dropLock, h1, h4, h5, cond_true, cond_false] <;> rfl)
      · refine zeP rfl rfl ?_
        refine zeGR rfl rfl (shS hb (by omega)) rfl rfl ?_
        refine zeGI rfl rfl (shG hb (by omega)) rfl rfl ?_
        refine zeB1 rfl rfl (fun h6 => ?_) (fun h6 => ?_)
        · refine zeP rfl rfl ?_
          exact zeRe rfl rfl rfl rfl (by simp only [x_dropLock, h1, h4, h5, h6, cond_true, cond_false] <;> rfl) (by simp only [x_dropLock, h1, h4, h5, h6, cond_true, cond_false] <;> rfl)
        · refine zeP rfl rfl ?_
          refine zeGR rfl rfl (shM hb) rfl rfl ?_
          refine zeP rfl rfl ?_
          refine zeGI rfl rfl (shM hb) rfl rfl ?_
          refine zeP rfl rfl ?_
          refine zeKn (c := 4) rfl rfl rfl ?_
          refine zeP rfl rfl ?_
          refine zeCV rfl rfl rfl rfl (shLG hb) rfl (xc_logAdd (m := (x_reach m b t ((mv m (b + 5 + l) 0)) ((Int32.ofNat 0))).2) (b := b) (t := (((x_reach m b t ((mv m (b + 5 + l) 0)) ((Int32.ofNat 0))).2) b 7)) (u := (Int32.ofNat t)) (w := (Int32.ofNat 4)) (v := (Int32.ofNat l)) hb (zxn (by simp (disch := omega) only [zx_ne]) (hc.reach (t := t) (w := (mv m (b + 5 + l) 0)) (v := Int32.ofNat 0) ht).n) (zxb (by simp (disch := omega) only [zx_ne]) (hc.reach (t := t) (w := (mv m (b + 5 + l) 0)) (v := Int32.ofNat 0) ht).n60)) (by omega) ?_
          dsimp only [Option.toList, List.cons_append, List.nil_append]
          refine zeP rfl rfl ?_
          exact zeRe rfl rfl rfl rfl (by simp only [x_dropLock, h1, h4, h5, h6, cond_true, cond_false] <;> rfl) (by simp only [x_dropLock, h1, h4, h5, h6, cond_true, cond_false] <;> rfl)
    · refine zeP rfl rfl ?_
      refine zeGR rfl rfl (shS hb (by omega)) rfl rfl ?_
      refine zeCV rfl rfl rfl rfl (shG hb (by omega)) rfl (xc_latest (m := m) (b := b) (t := t) hb ht (hc.q ht) (hc.q4 ht)) (by omega) ?_
      dsimp only [Option.toList, List.cons_append, List.nil_append]
      refine zeP rfl rfl ?_
      refine zeB2 rfl rfl (fun h7 => ?_) (fun h7 => ?_)
      · refine zeP rfl rfl ?_
        refine zeGR rfl rfl (shS hb (by omega)) rfl rfl ?_
        refine zeP rfl rfl ?_
        refine zeGI rfl rfl (shG hb (by omega)) rfl rfl ?_
        refine zeKn (c := 1) rfl rfl rfl ?_
        refine zeP rfl rfl ?_
        refine zePI rfl rfl (shG hb (by omega)) rfl ?_
        refine zeP rfl rfl ?_
        refine zeGR rfl rfl (shS hb (by omega)) rfl rfl ?_
        refine zeGI rfl rfl (shG hb (by omega)) rfl rfl ?_
        refine zeB1 rfl rfl (fun h8 => ?_) (fun h8 => ?_)
        · refine zeKn (c := 1) rfl rfl rfl ?_
          exact zeRe rfl rfl rfl rfl (by simp only [x_dropLock, h1, h4, h7, h8, cond_true, cond_false] <;> rfl) (by simp only [x_dropLock, h1, h4, h7, h8, cond_true, cond_false] <;> rfl)
        · refine zeP rfl rfl ?_
          refine zeP rfl rfl ?_
          refine zeP rfl rfl ?_
          refine zeP rfl rfl ?_
          refine zeCV rfl rfl rfl rfl (shM hb) rfl (xc_keep (m := (zm2 m ((b + 14 + 7 * t)) 5 ((m ((b + 14 + 7 * t)) 5) - (Int32.ofNat 1)))) (b := b) (t := t) (l := l) hb ht hl (zxn (zx_ne _ _ _ (by omega)) hc.n) (zxb (zx_ne _ _ _ (by omega)) hc.n60)) (by omega) ?_
          dsimp only [Option.toList, List.cons_append, List.nil_append]
          refine zeKn (c := 1) rfl rfl rfl ?_
          exact zeRe rfl rfl rfl rfl (by simp only [x_dropLock, h1, h4, h7, h8, cond_true, cond_false] <;> rfl) (by simp only [x_dropLock, h1, h4, h7, h8, cond_true, cond_false] <;> rfl)
      · refine zeP rfl rfl ?_
        refine zeP rfl rfl ?_
        refine zeKn (c := 2) rfl rfl rfl ?_
        refine zeCV rfl rfl rfl rfl (shM hb) rfl (xc_fall (m := m) (b := b) (t := t) (y := 2) hb (by omega) (by omega) (hc.l (by omega)) (hc.l4 (by omega)) hc.n hc.n60) (by omega) ?_
        dsimp only [Option.toList, List.cons_append, List.nil_append]
        exact zeRe rfl rfl rfl rfl (by simp only [x_dropLock, h1, h4, h7, cond_true, cond_false] <;> rfl) (by simp only [x_dropLock, h1, h4, h7, cond_true, cond_false] <;> rfl)
theorem xc_dropLock {σ : Nat → Nat × (Nat → Int32)} {yy : (Nat → Nat → Int64) × Bool × Nat × Nat} {m : Nat → Nat → Int32} {b : Nat} {t : Nat} {l : Nat} (hb : BB b) (hc : CG m b) (ht : t < 4) (hl : l < 4) : zF σ 4 615 [.ref b, .int (Int32.ofNat t), .ref (b + 10 + 7 * t), .int (Int32.ofNat l)] (zS1, m, yy) (.inl (some (.int (x_dropLock m b t l).1))) (zS1, ((x_dropLock m b t l).2), yy) := by
  intro d hd
  obtain ⟨d, rfl⟩ : ∃ k, d = k + 1 := ⟨d - 1, by omega⟩
  exact xp_dropLock hd hb hc ht hl
noncomputable def x_getWord (m : Nat → Nat → Int32) (b : Nat) (t : Nat) (w : Nat) : Int32 × (Nat → Nat → Int32) := (bif zc2 .ne (x_reach m b t w ((-1))).1 (Int32.ofNat 1) then ((x_reach m b t w ((-1))).1, (x_reach m b t w ((-1))).2) else ((x_reach m b t w ((-1))).1, (zm2 ((x_reach m b t w ((-1))).2) ((b + 10 + 7 * t)) 4 (x_seenBy ((x_reach m b t w ((-1))).2) b t w))))
theorem xp_getWord {σ : Nat → Nat × (Nat → Int32)} {yy : (Nat → Nat → Int64) × Bool × Nat × Nat} {m : Nat → Nat → Int32} {b : Nat} {t : Nat} {w : Nat} {d : Nat} (hd : 4 ≤ d + 1) (hb : BB b) (hc : CG m b) (ht : t < 4) (hw : w < 32) : zEv σ (d + 1) 617 0 [some (.ref b), some (.int (Int32.ofNat t)), some (.ref (b + 10 + 7 * t)), some (.int (Int32.ofNat w)), none] [] (zS1, m, yy) (.inl (some (.int (x_getWord m b t w).1))) (zS1, ((x_getWord m b t w).2), yy) := by
  refine zeP rfl rfl ?_
  refine zeP rfl rfl ?_
  refine zeP rfl rfl ?_
  refine zeK (v := -1) rfl rfl rfl ?_
  refine zeCV rfl rfl rfl rfl (shM hb) rfl (xc_reach (m := m) (b := b) (t := t) (w := w) (v := (-1)) hb hc ht hw) (by omega) ?_
  dsimp only [Option.toList, List.cons_append, List.nil_append]
  refine zeP rfl rfl ?_
  refine zeP rfl rfl ?_
  refine zeKn (c := 1) rfl rfl rfl ?_
  refine zeB2 rfl rfl (fun h1 => ?_) (fun h1 => ?_)
  · refine zeP rfl rfl ?_
    exact zeRe rfl rfl rfl rfl (by simp only [x_getWord, h1, cond_true, cond_false] <;> rfl) (by simp only [x_getWord, h1, cond_true, cond_false] <;> rfl)
  · refine zeP rfl rfl ?_
    refine zeP rfl rfl ?_
    refine zeP rfl rfl ?_
    refine zeP rfl rfl ?_
    refine zeCV rfl rfl rfl rfl (shM hb) rfl (xc_seenBy (m := (x_reach m b t w ((-1))).2) (b := b) (t := t) (w := w) hb ht hw) (by omega) ?_
    dsimp only [Option.toList, List.cons_append, List.nil_append]
    refine zePI rfl rfl (shS hb (by omega)) rfl ?_
    refine zeP rfl rfl ?_
    exact zeRe rfl rfl rfl rfl (by simp only [x_getWord, h1, cond_true, cond_false] <;> rfl) (by simp only [x_getWord, h1, cond_true, cond_false] <;> rfl)
theorem xc_getWord {σ : Nat → Nat × (Nat → Int32)} {yy : (Nat → Nat → Int64) × Bool × Nat × Nat} {m : Nat → Nat → Int32} {b : Nat} {t : Nat} {w : Nat} (hb : BB b) (hc : CG m b) (ht : t < 4) (hw : w < 32) : zF σ 4 617 [.ref b, .int (Int32.ofNat t), .ref (b + 10 + 7 * t), .int (Int32.ofNat w)] (zS1, m, yy) (.inl (some (.int (x_getWord m b t w).1))) (zS1, ((x_getWord m b t w).2), yy) := by
  intro d hd
  obtain ⟨d, rfl⟩ : ∃ k, d = k + 1 := ⟨d - 1, by omega⟩
  exact xp_getWord hd hb hc ht hw
noncomputable def x_goOnWorking (m : Nat → Nat → Int32) (b : Nat) (t : Nat) (n : Int32) : Int32 × (Nat → Nat → Int32) := (bif zc2 .ge (((zm2 m ((b + 10 + 7 * t)) 7 ((m ((b + 10 + 7 * t)) 7) + (Int32.ofNat 1)))) ((b + 10 + 7 * t)) 7) n then ((Int32.ofNat 1), (zm2 m ((b + 10 + 7 * t)) 7 ((m ((b + 10 + 7 * t)) 7) + (Int32.ofNat 1)))) else ((Int32.ofNat 0), (zm2 m ((b + 10 + 7 * t)) 7 ((m ((b + 10 + 7 * t)) 7) + (Int32.ofNat 1)))))
theorem xp_goOnWorking {σ : Nat → Nat × (Nat → Int32)} {yy : (Nat → Nat → Int64) × Bool × Nat × Nat} {m : Nat → Nat → Int32} {b : Nat} {t : Nat} {n : Int32} {d : Nat} (hd : 1 ≤ d + 1) (hb : BB b) (ht : t < 4) : zEv σ (d + 1) 618 0 [some (.ref b), some (.ref (b + 10 + 7 * t)), some (.int n)] [] (zS1, m, yy) (.inl (some (.int (x_goOnWorking m b t n).1))) (zS1, ((x_goOnWorking m b t n).2), yy) := by
  refine zeP rfl rfl ?_
  refine zeP rfl rfl ?_
  refine zeGI rfl rfl (shS hb (by omega)) rfl rfl ?_
  refine zeKn (c := 1) rfl rfl rfl ?_
  refine zeP rfl rfl ?_
  refine zePI rfl rfl (shS hb (by omega)) rfl ?_
  refine zeP rfl rfl ?_
  refine zeGI rfl rfl (shS hb (by omega)) rfl rfl ?_
  refine zeP rfl rfl ?_
  refine zeB2 rfl rfl (fun h1 => ?_) (fun h1 => ?_)
  · refine zeKn (c := 1) rfl rfl rfl ?_
    exact zeRe rfl rfl rfl rfl (by simp only [x_goOnWorking, h1, cond_true, cond_false] <;> rfl) (by simp only [x_goOnWorking, h1, cond_true, cond_false] <;> rfl)
  · refine zeKn (c := 0) rfl rfl rfl ?_
    refine zeP rfl rfl ?_
    exact zeRe rfl rfl rfl rfl (by simp only [x_goOnWorking, h1, cond_true, cond_false] <;> rfl) (by simp only [x_goOnWorking, h1, cond_true, cond_false] <;> rfl)
theorem xc_goOnWorking {σ : Nat → Nat × (Nat → Int32)} {yy : (Nat → Nat → Int64) × Bool × Nat × Nat} {m : Nat → Nat → Int32} {b : Nat} {t : Nat} {n : Int32} (hb : BB b) (ht : t < 4) : zF σ 1 618 [.ref b, .ref (b + 10 + 7 * t), .int n] (zS1, m, yy) (.inl (some (.int (x_goOnWorking m b t n).1))) (zS1, ((x_goOnWorking m b t n).2), yy) := by
  intro d hd
  obtain ⟨d, rfl⟩ : ∃ k, d = k + 1 := ⟨d - 1, by omega⟩
  exact xp_goOnWorking hd hb ht
noncomputable def x_putOut (m : Nat → Nat → Int32) (b : Nat) (t : Nat) : Int32 × (Nat → Nat → Int32) := (bif zc1 .eq (m ((b + 14 + 7 * t)) 0) then (bif zc2 .ge (Int32.ofNat (mv m b 12)) (Int32.ofNat 20) then ((Int32.ofNat 1), (x_logAdd m b ((m b 7)) ((Int32.ofNat t)) ((Int32.ofNat 5)) ((m ((b + 10 + 7 * t)) 4)))) else ((Int32.ofNat 1), (x_logAdd ((zm2 ((zm2 ((zm2 m ((b + 38)) ((mv m b 12)) (Int32.ofNat t))) ((b + 39)) ((mv m b 12)) (((zm2 m ((b + 38)) ((mv m b 12)) (Int32.ofNat t))) ((b + 10 + 7 * t)) 4))) b 12 ((((zm2 ((zm2 m ((b + 38)) ((mv m b 12)) (Int32.ofNat t))) ((b + 39)) ((mv m b 12)) (((zm2 m ((b + 38)) ((mv m b 12)) (Int32.ofNat t))) ((b + 10 + 7 * t)) 4))) b 12) + (Int32.ofNat 1)))) b ((((zm2 ((zm2 ((zm2 m ((b + 38)) ((mv m b 12)) (Int32.ofNat t))) ((b + 39)) ((mv m b 12)) (((zm2 m ((b + 38)) ((mv m b 12)) (Int32.ofNat t))) ((b + 10 + 7 * t)) 4))) b 12 ((((zm2 ((zm2 m ((b + 38)) ((mv m b 12)) (Int32.ofNat t))) ((b + 39)) ((mv m b 12)) (((zm2 m ((b + 38)) ((mv m b 12)) (Int32.ofNat t))) ((b + 10 + 7 * t)) 4))) b 12) + (Int32.ofNat 1)))) b 7)) ((Int32.ofNat t)) ((Int32.ofNat 5)) ((((zm2 ((zm2 ((zm2 m ((b + 38)) ((mv m b 12)) (Int32.ofNat t))) ((b + 39)) ((mv m b 12)) (((zm2 m ((b + 38)) ((mv m b 12)) (Int32.ofNat t))) ((b + 10 + 7 * t)) 4))) b 12 ((((zm2 ((zm2 m ((b + 38)) ((mv m b 12)) (Int32.ofNat t))) ((b + 39)) ((mv m b 12)) (((zm2 m ((b + 38)) ((mv m b 12)) (Int32.ofNat t))) ((b + 10 + 7 * t)) 4))) b 12) + (Int32.ofNat 1)))) ((b + 10 + 7 * t)) 4))))) else ((x_fall m b t 3).1, (x_fall m b t 3).2))
theorem xp_putOut {σ : Nat → Nat × (Nat → Int32)} {yy : (Nat → Nat → Int64) × Bool × Nat × Nat} {m : Nat → Nat → Int32} {b : Nat} {t : Nat} {d : Nat} (hd : 3 ≤ d + 1) (hb : BB b) (hc : CG m b) (ht : t < 4) : zEv σ (d + 1) 619 0 [some (.ref b), some (.int (Int32.ofNat t)), some (.ref (b + 10 + 7 * t))] [] (zS1, m, yy) (.inl (some (.int (x_putOut m b t).1))) (zS1, ((x_putOut m b t).2), yy) := by
  refine zeP rfl rfl ?_
  refine zeGR rfl rfl (shS hb (by omega)) rfl rfl ?_
  refine zeGI rfl rfl (shG hb (by omega)) rfl rfl ?_
  refine zeB1 rfl rfl (fun h1 => ?_) (fun h1 => ?_)
  · refine zeP rfl rfl ?_
    refine zeGI rfl rfl (shM hb) rfl rfl ?_
    rw [hc.2.2.2.1.1]
    refine zeKn (c := 20) rfl rfl rfl ?_
    refine zeB2 rfl rfl (fun h2 => ?_) (fun h2 => ?_)
    · refine zeP rfl rfl ?_
      refine zeGR rfl rfl (shM hb) rfl rfl ?_
      refine zeP rfl rfl ?_
      refine zeGI rfl rfl (shM hb) rfl rfl ?_
      refine zeP rfl rfl ?_
      refine zeKn (c := 5) rfl rfl rfl ?_
      refine zeP rfl rfl ?_
      refine zeGI rfl rfl (shS hb (by omega)) rfl rfl ?_
      refine zeCV rfl rfl rfl rfl (shLG hb) rfl (xc_logAdd (m := m) (b := b) (t := (m b 7)) (u := (Int32.ofNat t)) (w := (Int32.ofNat 5)) (v := (m ((b + 10 + 7 * t)) 4)) hb (by first | exact hc.n | exact (zxn (by simp (disch := omega) only [zx_ne]) hc.n)) (by first | exact hc.n60 | exact (zxb (by simp (disch := omega) only [zx_ne]) hc.n60))) (by omega) ?_
      dsimp only [Option.toList, List.cons_append, List.nil_append]
      refine zeKn (c := 1) rfl rfl rfl ?_
      exact zeRe rfl rfl rfl rfl (by simp only [x_putOut, h1, h2, cond_true, cond_false] <;> rfl) (by simp only [x_putOut, h1, h2, cond_true, cond_false] <;> rfl)
    · refine zeP rfl rfl ?_
      refine zeGR rfl rfl (shM hb) rfl rfl ?_
      refine zeP rfl rfl ?_
      refine zeGI rfl rfl (shM hb) rfl rfl ?_
      rw [hc.2.2.2.1.1]
      refine zeP rfl rfl ?_
      refine zeAS (k := (mv m b 12)) rfl (shOT hb) rfl (zge_lt (by have := hc.2.2.2.1.2; omega) (by omega) (by assumption)) ?_
      refine zeP rfl rfl ?_
      refine zeGR rfl rfl (shM hb) rfl rfl ?_
      refine zeP rfl rfl ?_
      refine zeGI rfl rfl (shM hb) rfl rfl ?_
      rw [(show (((zm2 m ((b + 38)) ((mv m b 12)) (Int32.ofNat t))) b 12) = Int32.ofNat (mv m b 12) from (by simp (disch := omega) only [zx_ne]; exact hc.2.2.2.1.1))]
      refine zeP rfl rfl ?_
      refine zeGI rfl rfl (shS hb (by omega)) rfl rfl ?_
      refine zeAS (k := (mv m b 12)) rfl (shOS hb) rfl (zge_lt (by have := hc.2.2.2.1.2; omega) (by omega) (by assumption)) ?_
      refine zeP rfl rfl ?_
      refine zeP rfl rfl ?_
      refine zeGI rfl rfl (shM hb) rfl rfl ?_
      refine zeKn (c := 1) rfl rfl rfl ?_
      refine zeP rfl rfl ?_
      refine zePI rfl rfl (shM hb) rfl ?_
      refine zeP rfl rfl ?_
      refine zeGR rfl rfl (shM hb) rfl rfl ?_
      refine zeP rfl rfl ?_
      refine zeGI rfl rfl (shM hb) rfl rfl ?_
      refine zeP rfl rfl ?_
      refine zeKn (c := 5) rfl rfl rfl ?_
      refine zeP rfl rfl ?_
      refine zeGI rfl rfl (shS hb (by omega)) rfl rfl ?_
      refine zeCV rfl rfl rfl rfl (shLG hb) rfl (xc_logAdd (m := (zm2 ((zm2 ((zm2 m ((b + 38)) ((mv m b 12)) (Int32.ofNat t))) ((b + 39)) ((mv m b 12)) (((zm2 m ((b + 38)) ((mv m b 12)) (Int32.ofNat t))) ((b + 10 + 7 * t)) 4))) b 12 ((((zm2 ((zm2 m ((b + 38)) ((mv m b 12)) (Int32.ofNat t))) ((b + 39)) ((mv m b 12)) (((zm2 m ((b + 38)) ((mv m b 12)) (Int32.ofNat t))) ((b + 10 + 7 * t)) 4))) b 12) + (Int32.ofNat 1)))) (b := b) (t := (((zm2 ((zm2 ((zm2 m ((b + 38)) ((mv m b 12)) (Int32.ofNat t))) ((b + 39)) ((mv m b 12)) (((zm2 m ((b + 38)) ((mv m b 12)) (Int32.ofNat t))) ((b + 10 + 7 * t)) 4))) b 12 ((((zm2 ((zm2 m ((b + 38)) ((mv m b 12)) (Int32.ofNat t))) ((b + 39)) ((mv m b 12)) (((zm2 m ((b + 38)) ((mv m b 12)) (Int32.ofNat t))) ((b + 10 + 7 * t)) 4))) b 12) + (Int32.ofNat 1)))) b 7)) (u := (Int32.ofNat t)) (w := (Int32.ofNat 5)) (v := (((zm2 ((zm2 ((zm2 m ((b + 38)) ((mv m b 12)) (Int32.ofNat t))) ((b + 39)) ((mv m b 12)) (((zm2 m ((b + 38)) ((mv m b 12)) (Int32.ofNat t))) ((b + 10 + 7 * t)) 4))) b 12 ((((zm2 ((zm2 m ((b + 38)) ((mv m b 12)) (Int32.ofNat t))) ((b + 39)) ((mv m b 12)) (((zm2 m ((b + 38)) ((mv m b 12)) (Int32.ofNat t))) ((b + 10 + 7 * t)) 4))) b 12) + (Int32.ofNat 1)))) ((b + 10 + 7 * t)) 4)) hb (by first | exact hc.n | exact (zxn (by simp (disch := omega) only [zx_ne]) hc.n)) (by first | exact hc.n60 | exact (zxb (by simp (disch := omega) only [zx_ne]) hc.n60))) (by omega) ?_
      dsimp only [Option.toList, List.cons_append, List.nil_append]
      refine zeKn (c := 1) rfl rfl rfl ?_
      exact zeRe rfl rfl rfl rfl (by simp only [x_putOut, h1, h2, cond_true, cond_false] <;> rfl) (by simp only [x_putOut, h1, h2, cond_true, cond_false] <;> rfl)
  · refine zeP rfl rfl ?_
    refine zeP rfl rfl ?_
    refine zeKn (c := 3) rfl rfl rfl ?_
    refine zeCV rfl rfl rfl rfl (shM hb) rfl (xc_fall (m := m) (b := b) (t := t) (y := 3) hb (by omega) (by omega) (hc.l (by omega)) (hc.l4 (by omega)) hc.n hc.n60) (by omega) ?_
    dsimp only [Option.toList, List.cons_append, List.nil_append]
    exact zeRe rfl rfl rfl rfl (by simp only [x_putOut, h1, cond_true, cond_false] <;> rfl) (by simp only [x_putOut, h1, cond_true, cond_false] <;> rfl)
theorem xc_putOut {σ : Nat → Nat × (Nat → Int32)} {yy : (Nat → Nat → Int64) × Bool × Nat × Nat} {m : Nat → Nat → Int32} {b : Nat} {t : Nat} (hb : BB b) (hc : CG m b) (ht : t < 4) : zF σ 3 619 [.ref b, .int (Int32.ofNat t), .ref (b + 10 + 7 * t)] (zS1, m, yy) (.inl (some (.int (x_putOut m b t).1))) (zS1, ((x_putOut m b t).2), yy) := by
  intro d hd
  obtain ⟨d, rfl⟩ : ∃ k, d = k + 1 := ⟨d - 1, by omega⟩
  exact xp_putOut hd hb hc ht
noncomputable def x_moveOn (m : Nat → Nat → Int32) (b : Nat) (t : Nat) : Int32 × (Nat → Nat → Int32) := (bif zc1 .ne (x_sDone ((zm2 ((zm2 m ((b + 10 + 7 * t)) 3 ((m ((b + 10 + 7 * t)) 3) + (Int32.ofNat 1)))) ((b + 10 + 7 * t)) 7 (Int32.ofNat 0))) b t) then (bif zc1 .eq (((zm2 ((zm2 m ((b + 10 + 7 * t)) 3 ((m ((b + 10 + 7 * t)) 3) + (Int32.ofNat 1)))) ((b + 10 + 7 * t)) 7 (Int32.ofNat 0))) ((b + 14 + 7 * t)) 0) then ((Int32.ofNat 1), (x_logAdd ((zm2 ((zm2 m ((b + 10 + 7 * t)) 3 ((m ((b + 10 + 7 * t)) 3) + (Int32.ofNat 1)))) ((b + 10 + 7 * t)) 7 (Int32.ofNat 0))) b ((((zm2 ((zm2 m ((b + 10 + 7 * t)) 3 ((m ((b + 10 + 7 * t)) 3) + (Int32.ofNat 1)))) ((b + 10 + 7 * t)) 7 (Int32.ofNat 0))) b 7)) ((Int32.ofNat t)) ((Int32.ofNat 6)) ((Int32.ofNat 0)))) else ((x_fall ((zm2 ((zm2 m ((b + 10 + 7 * t)) 3 ((m ((b + 10 + 7 * t)) 3) + (Int32.ofNat 1)))) ((b + 10 + 7 * t)) 7 (Int32.ofNat 0))) b t 2).1, (x_fall ((zm2 ((zm2 m ((b + 10 + 7 * t)) 3 ((m ((b + 10 + 7 * t)) 3) + (Int32.ofNat 1)))) ((b + 10 + 7 * t)) 7 (Int32.ofNat 0))) b t 2).2)) else ((Int32.ofNat 1), (zm2 ((zm2 m ((b + 10 + 7 * t)) 3 ((m ((b + 10 + 7 * t)) 3) + (Int32.ofNat 1)))) ((b + 10 + 7 * t)) 7 (Int32.ofNat 0))))
theorem xp_moveOn {σ : Nat → Nat × (Nat → Int32)} {yy : (Nat → Nat → Int64) × Bool × Nat × Nat} {m : Nat → Nat → Int32} {b : Nat} {t : Nat} {d : Nat} (hd : 3 ≤ d + 1) (hb : BB b) (hc : CG m b) (ht : t < 4) : zEv σ (d + 1) 612 0 [some (.ref b), some (.int (Int32.ofNat t)), some (.ref (b + 10 + 7 * t))] [] (zS1, m, yy) (.inl (some (.int (x_moveOn m b t).1))) (zS1, ((x_moveOn m b t).2), yy) := by
  refine zeP rfl rfl ?_
  refine zeP rfl rfl ?_
  refine zeGI rfl rfl (shS hb (by omega)) rfl rfl ?_
  refine zeKn (c := 1) rfl rfl rfl ?_
  refine zeP rfl rfl ?_
  refine zePI rfl rfl (shS hb (by omega)) rfl ?_
  refine zeP rfl rfl ?_
  refine zeKn (c := 0) rfl rfl rfl ?_
  refine zePI rfl rfl (shS hb (by omega)) rfl ?_
  refine zeP rfl rfl ?_
  refine zeCV rfl rfl rfl rfl (shS hb (by omega)) rfl (xc_sDone (m := (zm2 ((zm2 m ((b + 10 + 7 * t)) 3 ((m ((b + 10 + 7 * t)) 3) + (Int32.ofNat 1)))) ((b + 10 + 7 * t)) 7 (Int32.ofNat 0))) (b := b) (t := t) hb ht) (by omega) ?_
  dsimp only [Option.toList, List.cons_append, List.nil_append]
  refine zeB1 rfl rfl (fun h1 => ?_) (fun h1 => ?_)
  · refine zeP rfl rfl ?_
    refine zeGR rfl rfl (shS hb (by omega)) rfl rfl ?_
    refine zeGI rfl rfl (shG hb (by omega)) rfl rfl ?_
    refine zeB1 rfl rfl (fun h2 => ?_) (fun h2 => ?_)
    · refine zeP rfl rfl ?_
      refine zeGR rfl rfl (shM hb) rfl rfl ?_
      refine zeP rfl rfl ?_
      refine zeGI rfl rfl (shM hb) rfl rfl ?_
      refine zeP rfl rfl ?_
      refine zeKn (c := 6) rfl rfl rfl ?_
      refine zeKn (c := 0) rfl rfl rfl ?_
      refine zeCV rfl rfl rfl rfl (shLG hb) rfl (xc_logAdd (m := (zm2 ((zm2 m ((b + 10 + 7 * t)) 3 ((m ((b + 10 + 7 * t)) 3) + (Int32.ofNat 1)))) ((b + 10 + 7 * t)) 7 (Int32.ofNat 0))) (b := b) (t := (((zm2 ((zm2 m ((b + 10 + 7 * t)) 3 ((m ((b + 10 + 7 * t)) 3) + (Int32.ofNat 1)))) ((b + 10 + 7 * t)) 7 (Int32.ofNat 0))) b 7)) (u := (Int32.ofNat t)) (w := (Int32.ofNat 6)) (v := (Int32.ofNat 0)) hb ((hc.put _ (ncS ht)).put _ (ncS ht)).n ((hc.put _ (ncS ht)).put _ (ncS ht)).n60) (by omega) ?_
      dsimp only [Option.toList, List.cons_append, List.nil_append]
      refine zeKn (c := 1) rfl rfl rfl ?_
      exact zeRe rfl rfl rfl rfl (by simp only [x_moveOn, h1, h2, cond_true, cond_false] <;> rfl) (by simp only [x_moveOn, h1, h2, cond_true, cond_false] <;> rfl)
    · refine zeP rfl rfl ?_
      refine zeP rfl rfl ?_
      refine zeKn (c := 2) rfl rfl rfl ?_
      refine zeCV rfl rfl rfl rfl (shM hb) rfl (xc_fall (m := (zm2 ((zm2 m ((b + 10 + 7 * t)) 3 ((m ((b + 10 + 7 * t)) 3) + (Int32.ofNat 1)))) ((b + 10 + 7 * t)) 7 (Int32.ofNat 0))) (b := b) (t := t) (y := 2) hb ht (by omega) (((hc.put _ (ncS ht)).put _ (ncS ht)).l ht) (((hc.put _ (ncS ht)).put _ (ncS ht)).l4 ht) ((hc.put _ (ncS ht)).put _ (ncS ht)).n ((hc.put _ (ncS ht)).put _ (ncS ht)).n60) (by omega) ?_
      dsimp only [Option.toList, List.cons_append, List.nil_append]
      exact zeRe rfl rfl rfl rfl (by simp only [x_moveOn, h1, h2, cond_true, cond_false] <;> rfl) (by simp only [x_moveOn, h1, h2, cond_true, cond_false] <;> rfl)
  · refine zeKn (c := 1) rfl rfl rfl ?_
    exact zeRe rfl rfl rfl rfl (by simp only [x_moveOn, h1, cond_true, cond_false] <;> rfl) (by simp only [x_moveOn, h1, cond_true, cond_false] <;> rfl)
theorem xc_moveOn {σ : Nat → Nat × (Nat → Int32)} {yy : (Nat → Nat → Int64) × Bool × Nat × Nat} {m : Nat → Nat → Int32} {b : Nat} {t : Nat} (hb : BB b) (hc : CG m b) (ht : t < 4) : zF σ 3 612 [.ref b, .int (Int32.ofNat t), .ref (b + 10 + 7 * t)] (zS1, m, yy) (.inl (some (.int (x_moveOn m b t).1))) (zS1, ((x_moveOn m b t).2), yy) := by
  intro d hd
  obtain ⟨d, rfl⟩ : ∃ k, d = k + 1 := ⟨d - 1, by omega⟩
  exact xp_moveOn hd hb hc ht
