/-! 89.cls 90.cpure 91.cls 92.cls 93.cls -/
section
noncomputable def x_dropLock (m : Nat → Nat → Int32) (b : Nat) (t : Nat) (l : Nat) : Int32 × (Nat → Nat → Int32) := (bif zc1 .eq (m ((b + 14 + 7 * t)) 0) then (bif zc2 .ne (x_reach m b t ((mv m (b + 5 + l) 0)) ((Int32.ofNat 0))).1 (Int32.ofNat 1) then ((x_reach m b t ((mv m (b + 5 + l) 0)) ((Int32.ofNat 0))).1, (x_reach m b t ((mv m (b + 5 + l) 0)) ((Int32.ofNat 0))).2) else (bif zc1 .ne (((x_reach m b t ((mv m (b + 5 + l) 0)) ((Int32.ofNat 0))).2) ((b + 14 + 7 * t)) 0) then ((x_reach m b t ((mv m (b + 5 + l) 0)) ((Int32.ofNat 0))).1, (x_reach m b t ((mv m (b + 5 + l) 0)) ((Int32.ofNat 0))).2) else ((x_reach m b t ((mv m (b + 5 + l) 0)) ((Int32.ofNat 0))).1, (x_logAdd ((x_reach m b t ((mv m (b + 5 + l) 0)) ((Int32.ofNat 0))).2) b ((((x_reach m b t ((mv m (b + 5 + l) 0)) ((Int32.ofNat 0))).2) b 7)) ((Int32.ofNat t)) ((Int32.ofNat 4)) ((Int32.ofNat l)))))) else (bif zc1 .eq (x_leavesOut m b t ((Int32.ofNat l))) then (bif zc2 .ne (x_reach m b t ((mv m (b + 5 + l) 0)) ((Int32.ofNat 0))).1 (Int32.ofNat 1) then ((x_reach m b t ((mv m (b + 5 + l) 0)) ((Int32.ofNat 0))).1, (x_reach m b t ((mv m (b + 5 + l) 0)) ((Int32.ofNat 0))).2) else (bif zc1 .ne (((x_reach m b t ((mv m (b + 5 + l) 0)) ((Int32.ofNat 0))).2) ((b + 14 + 7 * t)) 0) then ((x_reach m b t ((mv m (b + 5 + l) 0)) ((Int32.ofNat 0))).1, (x_reach m b t ((mv m (b + 5 + l) 0)) ((Int32.ofNat 0))).2) else ((x_reach m b t ((mv m (b + 5 + l) 0)) ((Int32.ofNat 0))).1, (x_logAdd ((x_reach m b t ((mv m (b + 5 + l) 0)) ((Int32.ofNat 0))).2) b ((((x_reach m b t ((mv m (b + 5 + l) 0)) ((Int32.ofNat 0))).2) b 7)) ((Int32.ofNat t)) ((Int32.ofNat 4)) ((Int32.ofNat l)))))) else (bif zc2 .eq (x_latest m b t) (Int32.ofNat l) then (bif zc1 .ne (((zm2 m ((b + 14 + 7 * t)) 5 ((m ((b + 14 + 7 * t)) 5) - (Int32.ofNat 1)))) ((b + 14 + 7 * t)) 5) then ((Int32.ofNat 1), (zm2 m ((b + 14 + 7 * t)) 5 ((m ((b + 14 + 7 * t)) 5) - (Int32.ofNat 1)))) else ((Int32.ofNat 1), (x_keep ((zm2 m ((b + 14 + 7 * t)) 5 ((m ((b + 14 + 7 * t)) 5) - (Int32.ofNat 1)))) b t l))) else ((x_fall m b t 2).1, (x_fall m b t 2).2))))
theorem xp_dropLock {σ : Nat → Nat × (Nat → Int32)} {yy : (Nat → Nat → Int64) × Bool × Nat × Nat} {m : Nat → Nat → Int32} {b : Nat} {t : Nat} {l : Nat} {d : Nat} (hd : 4 ≤ d + 1) (hb : BB b) (hc : CG m b) (ht : t < 4) (hl : l < 4) : zEv σ (d + 1) 615 0 [some (.ref b), some (.int (Int32.ofNat t)), some (.ref (b + 10 + 7 * t)), some (.int (Int32.ofNat l)), none] [] (zS1, m, yy) (.inl (some (.int (x_dropLock m b t l).1))) (zS1, ((x_dropLock m b t l).2), yy) := by
  refine zeP rfl rfl ?_
  refine zeGR rfl rfl (shS hb (by omega)) rfl rfl ?_
  refine zeGI rfl rfl (shG hb (by omega)) rfl rfl ?_
  refine zeB1 rfl rfl (fun h1 => ?_) (fun h1 => ?_)
  · refine zeP rfl rfl ?_
    refine zeP rfl rfl ?_
    refine zeP rfl rfl ?_
    refine zeP rfl rfl ?_
    refine zeCV rfl rfl rfl rfl (shM hb) rfl (xc_lockAt (m := m) (b := b) (l := l) hb hl) (by omega) ?_
    dsimp only [Option.toList, List.cons_append, List.nil_append]
    refine zeGI rfl rfl (shL hb (by omega)) rfl rfl ?_
    rw [(hc.w hl).1]
    refine zeKn (c := 0) rfl rfl rfl ?_
    refine zeCV rfl rfl rfl rfl (shM hb) rfl (xc_reach (m := m) (b := b) (t := t) (w := (mv m (b + 5 + l) 0)) (v := (Int32.ofNat 0)) hb hc ht (hc.w32 hl)) (by omega) ?_
    dsimp only [Option.toList, List.cons_append, List.nil_append]
    refine zeP rfl rfl ?_
    refine zeP rfl rfl ?_
    refine zeKn (c := 1) rfl rfl rfl ?_
    refine zeB2 rfl rfl (fun h2 => ?_) (fun h2 => ?_)
    · refine zeP rfl rfl ?_
      exact zeRe rfl rfl rfl rfl (by simp only [x_dropLock, h1, h2, cond_true, cond_false] <;> rfl) (by simp only [x_dropLock, h1, h2, cond_true, cond_false] <;> rfl)
    · refine zeP rfl rfl ?_
      refine zeGR rfl rfl (shS hb (by omega)) rfl rfl ?_
      refine zeGI rfl rfl (shG hb (by omega)) rfl rfl ?_
      refine zeB1 rfl rfl (fun h3 => ?_) (fun h3 => ?_)
      · refine zeP rfl rfl ?_
        exact zeRe rfl rfl rfl rfl (by simp only [x_dropLock, h1, h2, h3, cond_true, cond_false] <;> rfl) (by simp only [x_dropLock, h1, h2, h3, cond_true, cond_false] <;> rfl)
      · refine zeP rfl rfl ?_
        refine zeGR rfl rfl (shM hb) rfl rfl ?_
        refine zeP rfl rfl ?_
        refine zeGI rfl rfl (shM hb) rfl rfl ?_
        refine zeP rfl rfl ?_
        refine zeKn (c := 4) rfl rfl rfl ?_
        refine zeP rfl rfl ?_
        refine zeCV rfl rfl rfl rfl (shLG hb) rfl (xc_logAdd (m := (x_reach m b t ((mv m (b + 5 + l) 0)) ((Int32.ofNat 0))).2) (b := b) (t := (((x_reach m b t ((mv m (b + 5 + l) 0)) ((Int32.ofNat 0))).2) b 7)) (u := (Int32.ofNat t)) (w := (Int32.ofNat 4)) (v := (Int32.ofNat l)) hb (zxn (by simp (disch := omega) only [zx_ne]) (hc.reach (t := t) (w := (mv m (b + 5 + l) 0)) (v := Int32.ofNat 0) ht).n) (zxb (by simp (disch := omega) only [zx_ne]) (hc.reach (t := t) (w := (mv m (b + 5 + l) 0)) (v := Int32.ofNat 0) ht).n60)) (by omega) ?_
        dsimp only [Option.toList, List.cons_append, List.nil_append]
        refine zeP rfl rfl ?_
        exact zeRe rfl rfl rfl rfl (by simp only [x_dropLock, h1, h2, h3, cond_true, cond_false] <;> rfl) (by simp only [x_dropLock, h1, h2, h3, cond_true, cond_false] <;> rfl)
  · refine zeP rfl rfl ?_
    refine zeGR rfl rfl (shS hb (by omega)) rfl rfl ?_
    refine zeP rfl rfl ?_
    refine zeCV rfl rfl rfl rfl (shG hb (by omega)) rfl (xc_leavesOut (m := m) (b := b) (t := t) (l := (Int32.ofNat l)) hb ht (hc.q ht) (hc.q4 ht)) (by omega) ?_
    dsimp only [Option.toList, List.cons_append, List.nil_append]
    refine zeB1 rfl rfl (fun h4 => ?_) (fun h4 => ?_)
    · refine zeP rfl rfl ?_
      refine zeP rfl rfl ?_
      refine zeP rfl rfl ?_
      refine zeP rfl rfl ?_
      refine zeCV rfl rfl rfl rfl (shM hb) rfl (xc_lockAt (m := m) (b := b) (l := l) hb hl) (by omega) ?_
      dsimp only [Option.toList, List.cons_append, List.nil_append]
      refine zeGI rfl rfl (shL hb (by omega)) rfl rfl ?_
      rw [(hc.w hl).1]
      refine zeKn (c := 0) rfl rfl rfl ?_
      refine zeCV rfl rfl rfl rfl (shM hb) rfl (xc_reach (m := m) (b := b) (t := t) (w := (mv m (b + 5 + l) 0)) (v := (Int32.ofNat 0)) hb hc ht (hc.w32 hl)) (by omega) ?_
      dsimp only [Option.toList, List.cons_append, List.nil_append]
      refine zeP rfl rfl ?_
      refine zeP rfl rfl ?_
      refine zeKn (c := 1) rfl rfl rfl ?_
      refine zeB2 rfl rfl (fun h5 => ?_) (fun h5 => ?_)
      · refine zeP rfl rfl ?_
        exact zeRe rfl rfl rfl rfl (by simp only [x_dropLock, h1, h4, h5, cond_true, cond_false] <;> rfl) (by simp only [x_dropLock, h1, h4, h5, cond_true, cond_false] <;> rfl)
      · refine zeP rfl rfl ?_
        refine zeGR rfl rfl (shS hb (by omega)) rfl rfl ?_
        refine zeGI rfl rfl (shG hb (by omega)) rfl rfl ?_
        refine zeB1 rfl rfl (fun h6 => ?_) (fun h6 => ?_)
        · refine zeP rfl rfl ?_
          exact zeRe rfl rfl rfl rfl (by simp only [x_dropLock, h1, h4, h5, h6, cond_true, cond_false] <;> rfl) (by simp only [x_dropLock, h1, h4, h5, h6, cond_true, cond_false] <;> rfl)
        · refine zeP rfl rfl ?_
          refine zeGR rfl rfl (shM hb) rfl rfl ?_
          refine zeP rfl rfl ?_
          refine zeGI rfl rfl (shM hb) rfl rfl ?_
          refine zeP rfl rfl ?_
          refine zeKn (c := 4) rfl rfl rfl ?_
          refine zeP rfl rfl ?_
          refine zeCV rfl rfl rfl rfl (shLG hb) rfl (xc_logAdd (m := (x_reach m b t ((mv m (b + 5 + l) 0)) ((Int32.ofNat 0))).2) (b := b) (t := (((x_reach m b t ((mv m (b + 5 + l) 0)) ((Int32.ofNat 0))).2) b 7)) (u := (Int32.ofNat t)) (w := (Int32.ofNat 4)) (v := (Int32.ofNat l)) hb (zxn (by simp (disch := omega) only [zx_ne]) (hc.reach (t := t) (w := (mv m (b + 5 + l) 0)) (v := Int32.ofNat 0) ht).n) (zxb (by simp (disch := omega) only [zx_ne]) (hc.reach (t := t) (w := (mv m (b + 5 + l) 0)) (v := Int32.ofNat 0) ht).n60)) (by omega) ?_
          dsimp only [Option.toList, List.cons_append, List.nil_append]
          refine zeP rfl rfl ?_
          exact zeRe rfl rfl rfl rfl (by simp only [x_dropLock, h1, h4, h5, h6, cond_true, cond_false] <;> rfl) (by simp only [x_dropLock, h1, h4, h5, h6, cond_true, cond_false] <;> rfl)
    · refine zeP rfl rfl ?_
      refine zeGR rfl rfl (shS hb (by omega)) rfl rfl ?_
      refine zeCV rfl rfl rfl rfl (shG hb (by omega)) rfl (xc_latest (m := m) (b := b) (t := t) hb ht (hc.q ht) (hc.q4 ht)) (by omega) ?_
      dsimp only [Option.toList, List.cons_append, List.nil_append]
      refine zeP rfl rfl ?_
      refine zeB2 rfl rfl (fun h7 => ?_) (fun h7 => ?_)
      · refine zeP rfl rfl ?_
        refine zeGR rfl rfl (shS hb (by omega)) rfl rfl ?_
        refine zeP rfl rfl ?_
        refine zeGI rfl rfl (shG hb (by omega)) rfl rfl ?_
        refine zeKn (c := 1) rfl rfl rfl ?_
        refine zeP rfl rfl ?_
        refine zePI rfl rfl (shG hb (by omega)) rfl ?_
        refine zeP rfl rfl ?_
        refine zeGR rfl rfl (shS hb (by omega)) rfl rfl ?_
        refine zeGI rfl rfl (shG hb (by omega)) rfl rfl ?_
        refine zeB1 rfl rfl (fun h8 => ?_) (fun h8 => ?_)
        · refine zeKn (c := 1) rfl rfl rfl ?_
          exact zeRe rfl rfl rfl rfl (by simp only [x_dropLock, h1, h4, h7, h8, cond_true, cond_false] <;> rfl) (by simp only [x_dropLock, h1, h4, h7, h8, cond_true, cond_false] <;> rfl)
        · refine zeP rfl rfl ?_
          refine zeP rfl rfl ?_
          refine zeP rfl rfl ?_
          refine zeP rfl rfl ?_
          refine zeCV rfl rfl rfl rfl (shM hb) rfl (xc_keep (m := (zm2 m ((b + 14 + 7 * t)) 5 ((m ((b + 14 + 7 * t)) 5) - (Int32.ofNat 1)))) (b := b) (t := t) (l := l) hb ht hl (zxn (zx_ne _ _ _ (by omega)) hc.n) (zxb (zx_ne _ _ _ (by omega)) hc.n60)) (by omega) ?_
          dsimp only [Option.toList, List.cons_append, List.nil_append]
          refine zeKn (c := 1) rfl rfl rfl ?_
          exact zeRe rfl rfl rfl rfl (by simp only [x_dropLock, h1, h4, h7, h8, cond_true, cond_false] <;> rfl) (by simp only [x_dropLock, h1, h4, h7, h8, cond_true, cond_false] <;> rfl)
      · refine zeP rfl rfl ?_
        refine zeP rfl rfl ?_
        refine zeKn (c := 2) rfl rfl rfl ?_
        refine zeCV rfl rfl rfl rfl (shM hb) rfl (xc_fall (m := m) (b := b) (t := t) (y := 2) hb (by omega) (by omega) (hc.l (by omega)) (hc.l4 (by omega)) hc.n hc.n60) (by omega) ?_
        dsimp only [Option.toList, List.cons_append, List.nil_append]
        exact zeRe rfl rfl rfl rfl (by simp only [x_dropLock, h1, h4, h7, cond_true, cond_false] <;> rfl) (by simp only [x_dropLock, h1, h4, h7, cond_true, cond_false] <;> rfl)
theorem xc_dropLock {σ : Nat → Nat × (Nat → Int32)} {yy : (Nat → Nat → Int64) × Bool × Nat × Nat} {m : Nat → Nat → Int32} {b : Nat} {t : Nat} {l : Nat} (hb : BB b) (hc : CG m b) (ht : t < 4) (hl : l < 4) : zF σ 4 615 [.ref b, .int (Int32.ofNat t), .ref (b + 10 + 7 * t), .int (Int32.ofNat l)] (zS1, m, yy) (.inl (some (.int (x_dropLock m b t l).1))) (zS1, ((x_dropLock m b t l).2), yy) := by
  intro d hd
  obtain ⟨d, rfl⟩ : ∃ k, d = k + 1 := ⟨d - 1, by omega⟩
  exact xp_dropLock hd hb hc ht hl
noncomputable def x_getWord (m : Nat → Nat → Int32) (b : Nat) (t : Nat) (w : Nat) : Int32 × (Nat → Nat → Int32) := (bif zc2 .ne (x_reach m b t w ((-1))).1 (Int32.ofNat 1) then ((x_reach m b t w ((-1))).1, (x_reach m b t w ((-1))).2) else ((x_reach m b t w ((-1))).1, (zm2 ((x_reach m b t w ((-1))).2) ((b + 10 + 7 * t)) 4 (x_seenBy ((x_reach m b t w ((-1))).2) b t w))))
theorem xp_getWord {σ : Nat → Nat × (Nat → Int32)} {yy : (Nat → Nat → Int64) × Bool × Nat × Nat} {m : Nat → Nat → Int32} {b : Nat} {t : Nat} {w : Nat} {d : Nat} (hd : 4 ≤ d + 1) (hb : BB b) (hc : CG m b) (ht : t < 4) (hw : w < 32) : zEv σ (d + 1) 617 0 [some (.ref b), some (.int (Int32.ofNat t)), some (.ref (b + 10 + 7 * t)), some (.int (Int32.ofNat w)), none] [] (zS1, m, yy) (.inl (some (.int (x_getWord m b t w).1))) (zS1, ((x_getWord m b t w).2), yy) := by
  refine zeP rfl rfl ?_
  refine zeP rfl rfl ?_
  refine zeP rfl rfl ?_
  refine zeK (v := -1) rfl rfl rfl ?_
  refine zeCV rfl rfl rfl rfl (shM hb) rfl (xc_reach (m := m) (b := b) (t := t) (w := w) (v := (-1)) hb hc ht hw) (by omega) ?_
  dsimp only [Option.toList, List.cons_append, List.nil_append]
  refine zeP rfl rfl ?_
  refine zeP rfl rfl ?_
  refine zeKn (c := 1) rfl rfl rfl ?_
  refine zeB2 rfl rfl (fun h1 => ?_) (fun h1 => ?_)
  · refine zeP rfl rfl ?_
    exact zeRe rfl rfl rfl rfl (by simp only [x_getWord, h1, cond_true, cond_false] <;> rfl) (by simp only [x_getWord, h1, cond_true, cond_false] <;> rfl)
  · refine zeP rfl rfl ?_
    refine zeP rfl rfl ?_
    refine zeP rfl rfl ?_
    refine zeP rfl rfl ?_
    refine zeCV rfl rfl rfl rfl (shM hb) rfl (xc_seenBy (m := (x_reach m b t w ((-1))).2) (b := b) (t := t) (w := w) hb ht hw) (by omega) ?_
    dsimp only [Option.toList, List.cons_append, List.nil_append]
    refine zePI rfl rfl (shS hb (by omega)) rfl ?_
    refine zeP rfl rfl ?_
    exact zeRe rfl rfl rfl rfl (by simp only [x_getWord, h1, cond_true, cond_false] <;> rfl) (by simp only [x_getWord, h1, cond_true, cond_false] <;> rfl)
theorem xc_getWord {σ : Nat → Nat × (Nat → Int32)} {yy : (Nat → Nat → Int64) × Bool × Nat × Nat} {m : Nat → Nat → Int32} {b : Nat} {t : Nat} {w : Nat} (hb : BB b) (hc : CG m b) (ht : t < 4) (hw : w < 32) : zF σ 4 617 [.ref b, .int (Int32.ofNat t), .ref (b + 10 + 7 * t), .int (Int32.ofNat w)] (zS1, m, yy) (.inl (some (.int (x_getWord m b t w).1))) (zS1, ((x_getWord m b t w).2), yy) := by
  intro d hd
  obtain ⟨d, rfl⟩ : ∃ k, d = k + 1 := ⟨d - 1, by omega⟩
  exact xp_getWord hd hb hc ht hw
noncomputable def x_goOnWorking (m : Nat → Nat → Int32) (b : Nat) (t : Nat) (n : Int32) : Int32 × (Nat → Nat → Int32) := (bif zc2 .ge (((zm2 m ((b + 10 + 7 * t)) 7 ((m ((b + 10 + 7 * t)) 7) + (Int32.ofNat 1)))) ((b + 10 + 7 * t)) 7) n then ((Int32.ofNat 1), (zm2 m ((b + 10 + 7 * t)) 7 ((m ((b + 10 + 7 * t)) 7) + (Int32.ofNat 1)))) else ((Int32.ofNat 0), (zm2 m ((b + 10 + 7 * t)) 7 ((m ((b + 10 + 7 * t)) 7) + (Int32.ofNat 1)))))
theorem xp_goOnWorking {σ : Nat → Nat × (Nat → Int32)} {yy : (Nat → Nat → Int64) × Bool × Nat × Nat} {m : Nat → Nat → Int32} {b : Nat} {t : Nat} {n : Int32} {d : Nat} (hd : 1 ≤ d + 1) (hb : BB b) (ht : t < 4) : zEv σ (d + 1) 618 0 [some (.ref b), some (.ref (b + 10 + 7 * t)), some (.int n)] [] (zS1, m, yy) (.inl (some (.int (x_goOnWorking m b t n).1))) (zS1, ((x_goOnWorking m b t n).2), yy) := by
  refine zeP rfl rfl ?_
  refine zeP rfl rfl ?_
  refine zeGI rfl rfl (shS hb (by omega)) rfl rfl ?_
  refine zeKn (c := 1) rfl rfl rfl ?_
  refine zeP rfl rfl ?_
  refine zePI rfl rfl (shS hb (by omega)) rfl ?_
  refine zeP rfl rfl ?_
  refine zeGI rfl rfl (shS hb (by omega)) rfl rfl ?_
  refine zeP rfl rfl ?_
  refine zeB2 rfl rfl (fun h1 => ?_) (fun h1 => ?_)
  · refine zeKn (c := 1) rfl rfl rfl ?_
    exact zeRe rfl rfl rfl rfl (by simp only [x_goOnWorking, h1, cond_true, cond_false] <;> rfl) (by simp only [x_goOnWorking, h1, cond_true, cond_false] <;> rfl)
  · refine zeKn (c := 0) rfl rfl rfl ?_
    refine zeP rfl rfl ?_
    exact zeRe rfl rfl rfl rfl (by simp only [x_goOnWorking, h1, cond_true, cond_false] <;> rfl) (by simp only [x_goOnWorking, h1, cond_true, cond_false] <;> rfl)
theorem xc_goOnWorking {σ : Nat → Nat × (Nat → Int32)} {yy : (Nat → Nat → Int64) × Bool × Nat × Nat} {m : Nat → Nat → Int32} {b : Nat} {t : Nat} {n : Int32} (hb : BB b) (ht : t < 4) : zF σ 1 618 [.ref b, .ref (b + 10 + 7 * t), .int n] (zS1, m, yy) (.inl (some (.int (x_goOnWorking m b t n).1))) (zS1, ((x_goOnWorking m b t n).2), yy) := by
  intro d hd
  obtain ⟨d, rfl⟩ : ∃ k, d = k + 1 := ⟨d - 1, by omega⟩
  exact xp_goOnWorking hd hb ht
noncomputable def x_putOut (m : Nat → Nat → Int32) (b : Nat) (t : Nat) : Int32 × (Nat → Nat → Int32) := (bif zc1 .eq (m ((b + 14 + 7 * t)) 0) then (bif zc2 .ge (Int32.ofNat (mv m b 12)) (Int32.ofNat 20) then ((Int32.ofNat 1), (x_logAdd m b ((m b 7)) ((Int32.ofNat t)) ((Int32.ofNat 5)) ((m ((b + 10 + 7 * t)) 4)))) else ((Int32.ofNat 1), (x_logAdd ((zm2 ((zm2 ((zm2 m ((b + 38)) ((mv m b 12)) (Int32.ofNat t))) ((b + 39)) ((mv m b 12)) (((zm2 m ((b + 38)) ((mv m b 12)) (Int32.ofNat t))) ((b + 10 + 7 * t)) 4))) b 12 ((((zm2 ((zm2 m ((b + 38)) ((mv m b 12)) (Int32.ofNat t))) ((b + 39)) ((mv m b 12)) (((zm2 m ((b + 38)) ((mv m b 12)) (Int32.ofNat t))) ((b + 10 + 7 * t)) 4))) b 12) + (Int32.ofNat 1)))) b ((((zm2 ((zm2 ((zm2 m ((b + 38)) ((mv m b 12)) (Int32.ofNat t))) ((b + 39)) ((mv m b 12)) (((zm2 m ((b + 38)) ((mv m b 12)) (Int32.ofNat t))) ((b + 10 + 7 * t)) 4))) b 12 ((((zm2 ((zm2 m ((b + 38)) ((mv m b 12)) (Int32.ofNat t))) ((b + 39)) ((mv m b 12)) (((zm2 m ((b + 38)) ((mv m b 12)) (Int32.ofNat t))) ((b + 10 + 7 * t)) 4))) b 12) + (Int32.ofNat 1)))) b 7)) ((Int32.ofNat t)) ((Int32.ofNat 5)) ((((zm2 ((zm2 ((zm2 m ((b + 38)) ((mv m b 12)) (Int32.ofNat t))) ((b + 39)) ((mv m b 12)) (((zm2 m ((b + 38)) ((mv m b 12)) (Int32.ofNat t))) ((b + 10 + 7 * t)) 4))) b 12 ((((zm2 ((zm2 m ((b + 38)) ((mv m b 12)) (Int32.ofNat t))) ((b + 39)) ((mv m b 12)) (((zm2 m ((b + 38)) ((mv m b 12)) (Int32.ofNat t))) ((b + 10 + 7 * t)) 4))) b 12) + (Int32.ofNat 1)))) ((b + 10 + 7 * t)) 4))))) else ((x_fall m b t 3).1, (x_fall m b t 3).2))
theorem xp_putOut {σ : Nat → Nat × (Nat → Int32)} {yy : (Nat → Nat → Int64) × Bool × Nat × Nat} {m : Nat → Nat → Int32} {b : Nat} {t : Nat} {d : Nat} (hd : 3 ≤ d + 1) (hb : BB b) (hc : CG m b) (ht : t < 4) : zEv σ (d + 1) 619 0 [some (.ref b), some (.int (Int32.ofNat t)), some (.ref (b + 10 + 7 * t))] [] (zS1, m, yy) (.inl (some (.int (x_putOut m b t).1))) (zS1, ((x_putOut m b t).2), yy) := by
  refine zeP rfl rfl ?_
  refine zeGR rfl rfl (shS hb (by omega)) rfl rfl ?_
  refine zeGI rfl rfl (shG hb (by omega)) rfl rfl ?_
  refine zeB1 rfl rfl (fun h1 => ?_) (fun h1 => ?_)
  · refine zeP rfl rfl ?_
    refine zeGI rfl rfl (shM hb) rfl rfl ?_
    rw [hc.2.2.2.1.1]
    refine zeKn (c := 20) rfl rfl rfl ?_
    refine zeB2 rfl rfl (fun h2 => ?_) (fun h2 => ?_)
    · refine zeP rfl rfl ?_
      refine zeGR rfl rfl (shM hb) rfl rfl ?_
      refine zeP rfl rfl ?_
      refine zeGI rfl rfl (shM hb) rfl rfl ?_
      refine zeP rfl rfl ?_
      refine zeKn (c := 5) rfl rfl rfl ?_
      refine zeP rfl rfl ?_
      refine zeGI rfl rfl (shS hb (by omega)) rfl rfl ?_
      refine zeCV rfl rfl rfl rfl (shLG hb) rfl (xc_logAdd (m := m) (b := b) (t := (m b 7)) (u := (Int32.ofNat t)) (w := (Int32.ofNat 5)) (v := (m ((b + 10 + 7 * t)) 4)) hb (by first | exact hc.n | exact (zxn (by simp (disch := omega) only [zx_ne]) hc.n)) (by first | exact hc.n60 | exact (zxb (by simp (disch := omega) only [zx_ne]) hc.n60))) (by omega) ?_
      dsimp only [Option.toList, List.cons_append, List.nil_append]
      refine zeKn (c := 1) rfl rfl rfl ?_
      exact zeRe rfl rfl rfl rfl (by simp only [x_putOut, h1, h2, cond_true, cond_false] <;> rfl) (by simp only [x_putOut, h1, h2, cond_true, cond_false] <;> rfl)
    · refine zeP rfl rfl ?_
      refine zeGR rfl rfl (shM hb) rfl rfl ?_
      refine zeP rfl rfl ?_
      refine zeGI rfl rfl (shM hb) rfl rfl ?_
      rw [hc.2.2.2.1.1]
      refine zeP rfl rfl ?_
      refine zeAS (k := (mv m b 12)) rfl (shOT hb) rfl (zge_lt (by have := hc.2.2.2.1.2; omega) (by omega) (by assumption)) ?_
      refine zeP rfl rfl ?_
      refine zeGR rfl rfl (shM hb) rfl rfl ?_
      refine zeP rfl rfl ?_
      refine zeGI rfl rfl (shM hb) rfl rfl ?_
      rw [(show (((zm2 m ((b + 38)) ((mv m b 12)) (Int32.ofNat t))) b 12) = Int32.ofNat (mv m b 12) from (by simp (disch := omega) only [zx_ne]; exact hc.2.2.2.1.1))]
      refine zeP rfl rfl ?_
      refine zeGI rfl rfl (shS hb (by omega)) rfl rfl ?_
      refine zeAS (k := (mv m b 12)) rfl (shOS hb) rfl (zge_lt (by have := hc.2.2.2.1.2; omega) (by omega) (by assumption)) ?_
      refine zeP rfl rfl ?_
      refine zeP rfl rfl ?_
      refine zeGI rfl rfl (shM hb) rfl rfl ?_
      refine zeKn (c := 1) rfl rfl rfl ?_
      refine zeP rfl rfl ?_
      refine zePI rfl rfl (shM hb) rfl ?_
      refine zeP rfl rfl ?_
      refine zeGR rfl rfl (shM hb) rfl rfl ?_
      refine zeP rfl rfl ?_
      refine zeGI rfl rfl (shM hb) rfl rfl ?_
      refine zeP rfl rfl ?_
      refine zeKn (c := 5) rfl rfl rfl ?_
      refine zeP rfl rfl ?_
      refine zeGI rfl rfl (shS hb (by omega)) rfl rfl ?_
      refine zeCV rfl rfl rfl rfl (shLG hb) rfl (xc_logAdd (m := (zm2 ((zm2 ((zm2 m ((b + 38)) ((mv m b 12)) (Int32.ofNat t))) ((b + 39)) ((mv m b 12)) (((zm2 m ((b + 38)) ((mv m b 12)) (Int32.ofNat t))) ((b + 10 + 7 * t)) 4))) b 12 ((((zm2 ((zm2 m ((b + 38)) ((mv m b 12)) (Int32.ofNat t))) ((b + 39)) ((mv m b 12)) (((zm2 m ((b + 38)) ((mv m b 12)) (Int32.ofNat t))) ((b + 10 + 7 * t)) 4))) b 12) + (Int32.ofNat 1)))) (b := b) (t := (((zm2 ((zm2 ((zm2 m ((b + 38)) ((mv m b 12)) (Int32.ofNat t))) ((b + 39)) ((mv m b 12)) (((zm2 m ((b + 38)) ((mv m b 12)) (Int32.ofNat t))) ((b + 10 + 7 * t)) 4))) b 12 ((((zm2 ((zm2 m ((b + 38)) ((mv m b 12)) (Int32.ofNat t))) ((b + 39)) ((mv m b 12)) (((zm2 m ((b + 38)) ((mv m b 12)) (Int32.ofNat t))) ((b + 10 + 7 * t)) 4))) b 12) + (Int32.ofNat 1)))) b 7)) (u := (Int32.ofNat t)) (w := (Int32.ofNat 5)) (v := (((zm2 ((zm2 ((zm2 m ((b + 38)) ((mv m b 12)) (Int32.ofNat t))) ((b + 39)) ((mv m b 12)) (((zm2 m ((b + 38)) ((mv m b 12)) (Int32.ofNat t))) ((b + 10 + 7 * t)) 4))) b 12 ((((zm2 ((zm2 m ((b + 38)) ((mv m b 12)) (Int32.ofNat t))) ((b + 39)) ((mv m b 12)) (((zm2 m ((b + 38)) ((mv m b 12)) (Int32.ofNat t))) ((b + 10 + 7 * t)) 4))) b 12) + (Int32.ofNat 1)))) ((b + 10 + 7 * t)) 4)) hb (by first | exact hc.n | exact (zxn (by simp (disch := omega) only [zx_ne]) hc.n)) (by first | exact hc.n60 | exact (zxb (by simp (disch := omega) only [zx_ne]) hc.n60))) (by omega) ?_
      dsimp only [Option.toList, List.cons_append, List.nil_append]
      refine zeKn (c := 1) rfl rfl rfl ?_
      exact zeRe rfl rfl rfl rfl (by simp only [x_putOut, h1, h2, cond_true, cond_false] <;> rfl) (by simp only [x_putOut, h1, h2, cond_true, cond_false] <;> rfl)
  · refine zeP rfl rfl ?_
    refine zeP rfl rfl ?_
    refine zeKn (c := 3) rfl rfl rfl ?_
    refine zeCV rfl rfl rfl rfl (shM hb) rfl (xc_fall (m := m) (b := b) (t := t) (y := 3) hb (by omega) (by omega) (hc.l (by omega)) (hc.l4 (by omega)) hc.n hc.n60) (by omega) ?_
    dsimp only [Option.toList, List.cons_append, List.nil_append]
    exact zeRe rfl rfl rfl rfl (by simp only [x_putOut, h1, cond_true, cond_false] <;> rfl) (by simp only [x_putOut, h1, cond_true, cond_false] <;> rfl)
theorem xc_putOut {σ : Nat → Nat × (Nat → Int32)} {yy : (Nat → Nat → Int64) × Bool × Nat × Nat} {m : Nat → Nat → Int32} {b : Nat} {t : Nat} (hb : BB b) (hc : CG m b) (ht : t < 4) : zF σ 3 619 [.ref b, .int (Int32.ofNat t), .ref (b + 10 + 7 * t)] (zS1, m, yy) (.inl (some (.int (x_putOut m b t).1))) (zS1, ((x_putOut m b t).2), yy) := by
  intro d hd
  obtain ⟨d, rfl⟩ : ∃ k, d = k + 1 := ⟨d - 1, by omega⟩
  exact xp_putOut hd hb hc ht
noncomputable def x_moveOn (m : Nat → Nat → Int32) (b : Nat) (t : Nat) : Int32 × (Nat → Nat → Int32) := (bif zc1 .ne (x_sDone ((zm2 ((zm2 m ((b + 10 + 7 * t)) 3 ((m ((b + 10 + 7 * t)) 3) + (Int32.ofNat 1)))) ((b + 10 + 7 * t)) 7 (Int32.ofNat 0))) b t) then (bif zc1 .eq (((zm2 ((zm2 m ((b + 10 + 7 * t)) 3 ((m ((b + 10 + 7 * t)) 3) + (Int32.ofNat 1)))) ((b + 10 + 7 * t)) 7 (Int32.ofNat 0))) ((b + 14 + 7 * t)) 0) then ((Int32.ofNat 1), (x_logAdd ((zm2 ((zm2 m ((b + 10 + 7 * t)) 3 ((m ((b + 10 + 7 * t)) 3) + (Int32.ofNat 1)))) ((b + 10 + 7 * t)) 7 (Int32.ofNat 0))) b ((((zm2 ((zm2 m ((b + 10 + 7 * t)) 3 ((m ((b + 10 + 7 * t)) 3) + (Int32.ofNat 1)))) ((b + 10 + 7 * t)) 7 (Int32.ofNat 0))) b 7)) ((Int32.ofNat t)) ((Int32.ofNat 6)) ((Int32.ofNat 0)))) else ((x_fall ((zm2 ((zm2 m ((b + 10 + 7 * t)) 3 ((m ((b + 10 + 7 * t)) 3) + (Int32.ofNat 1)))) ((b + 10 + 7 * t)) 7 (Int32.ofNat 0))) b t 2).1, (x_fall ((zm2 ((zm2 m ((b + 10 + 7 * t)) 3 ((m ((b + 10 + 7 * t)) 3) + (Int32.ofNat 1)))) ((b + 10 + 7 * t)) 7 (Int32.ofNat 0))) b t 2).2)) else ((Int32.ofNat 1), (zm2 ((zm2 m ((b + 10 + 7 * t)) 3 ((m ((b + 10 + 7 * t)) 3) + (Int32.ofNat 1)))) ((b + 10 + 7 * t)) 7 (Int32.ofNat 0))))
theorem xp_moveOn {σ : Nat → Nat × (Nat → Int32)} {yy : (Nat → Nat → Int64) × Bool × Nat × Nat} {m : Nat → Nat → Int32} {b : Nat} {t : Nat} {d : Nat} (hd : 3 ≤ d + 1) (hb : BB b) (hc : CG m b) (ht : t < 4) : zEv σ (d + 1) 612 0 [some (.ref b), some (.int (Int32.ofNat t)), some (.ref (b + 10 + 7 * t))] [] (zS1, m, yy) (.inl (some (.int (x_moveOn m b t).1))) (zS1, ((x_moveOn m b t).2), yy) := by
  refine zeP rfl rfl ?_
  refine zeP rfl rfl ?_
  refine zeGI rfl rfl (shS hb (by omega)) rfl rfl ?_
  refine zeKn (c := 1) rfl rfl rfl ?_
  refine zeP rfl rfl ?_
  refine zePI rfl rfl (shS hb (by omega)) rfl ?_
  refine zeP rfl rfl ?_
  refine zeKn (c := 0) rfl rfl rfl ?_
  refine zePI rfl rfl (shS hb (by omega)) rfl ?_
  refine zeP rfl rfl ?_
  refine zeCV rfl rfl rfl rfl (shS hb (by omega)) rfl (xc_sDone (m := (zm2 ((zm2 m ((b + 10 + 7 * t)) 3 ((m ((b + 10 + 7 * t)) 3) + (Int32.ofNat 1)))) ((b + 10 + 7 * t)) 7 (Int32.ofNat 0))) (b := b) (t := t) hb ht) (by omega) ?_
  dsimp only [Option.toList, List.cons_append, List.nil_append]
  refine zeB1 rfl rfl (fun h1 => ?_) (fun h1 => ?_)
  · refine zeP rfl rfl ?_
    refine zeGR rfl rfl (shS hb (by omega)) rfl rfl ?_
    refine zeGI rfl rfl (shG hb (by omega)) rfl rfl ?_
    refine zeB1 rfl rfl (fun h2 => ?_) (fun h2 => ?_)
    · refine zeP rfl rfl ?_
      refine zeGR rfl rfl (shM hb) rfl rfl ?_
      refine zeP rfl rfl ?_
      refine zeGI rfl rfl (shM hb) rfl rfl ?_
      refine zeP rfl rfl ?_
      refine zeKn (c := 6) rfl rfl rfl ?_
      refine zeKn (c := 0) rfl rfl rfl ?_
      refine zeCV rfl rfl rfl rfl (shLG hb) rfl (xc_logAdd (m := (zm2 ((zm2 m ((b + 10 + 7 * t)) 3 ((m ((b + 10 + 7 * t)) 3) + (Int32.ofNat 1)))) ((b + 10 + 7 * t)) 7 (Int32.ofNat 0))) (b := b) (t := (((zm2 ((zm2 m ((b + 10 + 7 * t)) 3 ((m ((b + 10 + 7 * t)) 3) + (Int32.ofNat 1)))) ((b + 10 + 7 * t)) 7 (Int32.ofNat 0))) b 7)) (u := (Int32.ofNat t)) (w := (Int32.ofNat 6)) (v := (Int32.ofNat 0)) hb ((hc.put _ (ncS ht)).put _ (ncS ht)).n ((hc.put _ (ncS ht)).put _ (ncS ht)).n60) (by omega) ?_
      dsimp only [Option.toList, List.cons_append, List.nil_append]
      refine zeKn (c := 1) rfl rfl rfl ?_
      exact zeRe rfl rfl rfl rfl (by simp only [x_moveOn, h1, h2, cond_true, cond_false] <;> rfl) (by simp only [x_moveOn, h1, h2, cond_true, cond_false] <;> rfl)
    · refine zeP rfl rfl ?_
      refine zeP rfl rfl ?_
      refine zeKn (c := 2) rfl rfl rfl ?_
      refine zeCV rfl rfl rfl rfl (shM hb) rfl (xc_fall (m := (zm2 ((zm2 m ((b + 10 + 7 * t)) 3 ((m ((b + 10 + 7 * t)) 3) + (Int32.ofNat 1)))) ((b + 10 + 7 * t)) 7 (Int32.ofNat 0))) (b := b) (t := t) (y := 2) hb ht (by omega) (((hc.put _ (ncS ht)).put _ (ncS ht)).l ht) (((hc.put _ (ncS ht)).put _ (ncS ht)).l4 ht) ((hc.put _ (ncS ht)).put _ (ncS ht)).n ((hc.put _ (ncS ht)).put _ (ncS ht)).n60) (by omega) ?_
      dsimp only [Option.toList, List.cons_append, List.nil_append]
      exact zeRe rfl rfl rfl rfl (by simp only [x_moveOn, h1, h2, cond_true, cond_false] <;> rfl) (by simp only [x_moveOn, h1, h2, cond_true, cond_false] <;> rfl)
  · refine zeKn (c := 1) rfl rfl rfl ?_
    exact zeRe rfl rfl rfl rfl (by simp only [x_moveOn, h1, cond_true, cond_false] <;> rfl) (by simp only [x_moveOn, h1, cond_true, cond_false] <;> rfl)
theorem xc_moveOn {σ : Nat → Nat × (Nat → Int32)} {yy : (Nat → Nat → Int64) × Bool × Nat × Nat} {m : Nat → Nat → Int32} {b : Nat} {t : Nat} (hb : BB b) (hc : CG m b) (ht : t < 4) : zF σ 3 612 [.ref b, .int (Int32.ofNat t), .ref (b + 10 + 7 * t)] (zS1, m, yy) (.inl (some (.int (x_moveOn m b t).1))) (zS1, ((x_moveOn m b t).2), yy) := by
  intro d hd
  obtain ⟨d, rfl⟩ : ∃ k, d = k + 1 := ⟨d - 1, by omega⟩
  exact xp_moveOn hd hb hc ht
end
section
/-! the parts of the class's step keep the order -/
theorem CG.setq {m : Nat → Nat → Int32} {b t n : Nat} (h : CG m b) (ht : t < 4) (hn : n ≤ 4) : CG (zm2 m (b + 14 + 7 * t) 5 (Int32.ofNat n)) b := by
  refine h.of (h.1.of (zx_ne _ _ _ (by omega))) (zx_ne _ _ _ (by omega)) (fun u hu => ?_) (fun u hu k hk => zx_ne _ _ _ (by omega)) (zx_ne _ _ _ (by omega)) (fun l hl => zx_ne _ _ _ (by omega))
  by_cases hut : u = t
  · subst hut
    exact okm.is (zx_at _ _ _ _) hn (by omega)
  · exact (h.2.2.1 u hu).1.of (zx_ne _ _ _ (by omega))
theorem CG.setl {m : Nat → Nat → Int32} {b t n l : Nat} (h : CG m b) (ht : t < 4) (hn : n < 4) (hl : l < 4) : CG (zm2 m (b + 15 + 7 * t) n (Int32.ofNat l)) b := by
  refine ⟨h.1.of (zx_ne _ _ _ (by omega)), h.2.1.of (zx_ne _ _ _ (by omega)), fun u hu => ⟨(h.2.2.1 u hu).1.of (zx_ne _ _ _ (by omega)), fun k hk => ?_⟩, h.2.2.2.1.of (zx_ne _ _ _ (by omega)), fun l hl => (h.2.2.2.2 l hl).of (zx_ne _ _ _ (by omega))⟩
  by_cases hc : b + 15 + 7 * u = b + 15 + 7 * t ∧ k = n
  · have e1 : u = t := by omega
    have e2 := hc.2
    subst e1 e2
    exact okm.is (zx_at _ _ _ _) (by omega) (by omega)
  · exact ((h.2.2.1 u hu).2 k hk).of (zx_o _ _ hc)
theorem CG.leaveOut {m : Nat → Nat → Int32} {b t l : Nat} (h : CG m b) (ht : t < 4) (hl : l < 4) : CG (x_leaveOut m b t (Int32.ofNat l)) b := by
  unfold x_leaveOut
  refine cndh (fun q : Nat → Nat → Int32 => CG q b) (fun _ => h) (fun hc => ?_)
  have hq4 := h.q4 ht
  have hlt := zge_lt (by omega) (by omega) hc
  have e : zm2 m (b + 15 + 7 * t) (mv m (b + 14 + 7 * t) 5) (Int32.ofNat l) (b + 14 + 7 * t) 5 + Int32.ofNat 1 = Int32.ofNat (mv m (b + 14 + 7 * t) 5 + 1) := by
    rw [zx_ne _ _ _ (by omega), Int32.ofNat_add, ← h.q ht]
  rw [e]
  exact (h.setl ht hlt hl).setq ht (by omega)
theorem CG.begin {m : Nat → Nat → Int32} {b t : Nat} {x y z : Int32} (h : CG m b) (ht : t < 4) : CG (x_begin m b t x y z) b := by
  unfold x_begin
  exact (((h.put _ (ncG ht (by omega))).put _ (ncG ht (by omega))).put _ (ncG ht (by omega))).put _ (ncG ht (by omega))
theorem CG.gain {m : Nat → Nat → Int32} {b l : Nat} {x : Int32} (h : CG m b) (hl : l < 4) : CG (x_gain m b l x) b := by
  unfold x_gain
  exact cndi (fun q : Nat → Nat → Int32 => CG q b) (h.put _ (ncL hl (by omega))) (h.put _ (ncL hl (by omega)))
theorem keepL_ok {b t l : Nat} (ht : t < 4) (hl : l < 4) : ∀ (n k : Nat) (m : Nat → Nat → Int32), CG m b → CG (xl_keep b t l n k m) b := by
  intro n
  induction n with
  | zero =>
    intro k m h
    rw [xl_keep]
    exact CG.logAdd (((((h.close ht).put _ (ncS ht)).put _ (ncS ht)).gain hl).put _ (ncL hl (by omega))) _ _ _ _
  | succ n ih =>
    intro k m h
    rw [xl_keep]
    exact ih _ _ (h.put _ ncW)
theorem CG.keep {m : Nat → Nat → Int32} {b t l : Nat} (h : CG m b) (ht : t < 4) (hl : l < 4) : CG (x_keep m b t l) b := keepL_ok ht hl _ _ _ h
theorem CG.takePB {m : Nat → Nat → Int32} {b t l : Nat} (h : CG m b) (ht : t < 4) (hl : l < 4) : CG (x_takePB m b t l).2 b := by
  unfold x_takePB
  have ar := h.reach (w := mv m (b + 5 + l) 0) (v := Int32.ofNat 1) ht
  generalize x_reach m b t (mv m (b + 5 + l) 0) (Int32.ofNat 1) = c at ar ⊢
  have a1 : CG (zm2 (zm2 c.2 (b + 10 + 7 * t) 5 (Int32.ofNat 0)) (b + 5 + l) 2 (zm2 c.2 (b + 10 + 7 * t) 5 (Int32.ofNat 0) (b + 5 + l) 2 + Int32.ofNat 1)) b := (ar.put _ (ncS ht)).put _ (ncL hl (by omega))
  generalize zm2 (zm2 c.2 (b + 10 + 7 * t) 5 (Int32.ofNat 0)) (b + 5 + l) 2 (zm2 c.2 (b + 10 + 7 * t) 5 (Int32.ofNat 0) (b + 5 + l) 2 + Int32.ofNat 1) = m1 at a1 ⊢
  have a2 : ∀ x y z u : Int32, CG (x_logAdd m1 b x y z u) b := fun x y z u => a1.logAdd _ _ _ _
  have a3 : ∀ x y z u w : Int32, CG (x_logAdd (x_gain m1 b l w) b x y z u) b := fun x y z u w => (a1.gain hl).logAdd _ _ _ _
  have a4 : ∀ x y z u v p q r : Int32, CG (x_logAdd (zm2 (x_leaveOut (x_begin m b t x y z) b t (Int32.ofNat l)) (b + 14 + 7 * t) 6 u) b v p q r) b := fun x y z u v p q r => CG.logAdd (((h.begin ht).leaveOut ht hl).put _ (ncG ht (by omega))) _ _ _ _
  exact cndi (fun q : QM => CG q.2 b) (cndi (fun q : QM => CG q.2 b) (cndi (fun q : QM => CG q.2 b) (a2 _ _ _ _) (a3 _ _ _ _ _)) (cndi (fun q : QM => CG q.2 b) (cndi (fun q : QM => CG q.2 b) (a2 _ _ _ _) (a3 _ _ _ _ _)) (a4 _ _ _ _ _ _ _ _))) h
theorem CG.takePlainly {m : Nat → Nat → Int32} {b t l : Nat} (h : CG m b) (ht : t < 4) (hl : l < 4) : CG (x_takePlainly m b t l).2 b := (h.reach ht).takePB ht hl
theorem CG.takeGB {m : Nat → Nat → Int32} {b t l w : Nat} (h : CG m b) (ht : t < 4) (hl : l < 4) : CG (x_takeGB m b t l w).2 b := by
  unfold x_takeGB
  have ar := h.reach (w := w) (v := Int32.ofNat 1) ht
  have f4 := h.fall ht (show 4 < 5 by omega)
  have f2 := h.fall ht (show 2 < 5 by omega)
  generalize x_reach m b t w (Int32.ofNat 1) = c at ar ⊢
  generalize x_fall m b t 4 = c4 at f4 ⊢
  generalize x_fall m b t 2 = c2 at f2 ⊢
  exact cndi (fun q : QM => CG q.2 b) (cndi (fun q : QM => CG q.2 b) (cndi (fun q : QM => CG q.2 b) ar (h.leaveOut ht hl)) f4) f2
theorem CG.takeGuessing {m : Nat → Nat → Int32} {b t l : Nat} (h : CG m b) (ht : t < 4) (hl : l < 4) : CG (x_takeGuessing m b t l).2 b := by
  unfold x_takeGuessing
  have ar := h.reach (w := mv m (b + 5 + l) 0) (v := -1) ht
  generalize x_reach m b t (mv m (b + 5 + l) 0) (-1) = c at ar ⊢
  exact cndi (fun q : QM => CG q.2 b) (ar.takeGB ht hl) ar
theorem CG.getWord {m : Nat → Nat → Int32} {b t w : Nat} (h : CG m b) (ht : t < 4) : CG (x_getWord m b t w).2 b := by
  unfold x_getWord
  have ar := h.reach (w := w) (v := -1) ht
  generalize x_reach m b t w (-1) = c at ar ⊢
  exact cndi (fun q : QM => CG q.2 b) ar (ar.put _ (ncS ht))
theorem lo_pos {m : Nat → Nat → Int32} {b t : Nat} {l : Int32} (hc : zc1 .eq (x_leavesOut m b t l) = false) : 1 ≤ mv m (b + 14 + 7 * t) 5 := by
  apply Nat.succ_le_of_lt
  apply Nat.pos_of_ne_zero
  intro e
  unfold x_leavesOut at hc
  rw [e] at hc
  exact absurd hc (by simp only [xl_leavesOut]; decide)
theorem CG.dropLock {m : Nat → Nat → Int32} {b t l : Nat} (h : CG m b) (ht : t < 4) (hl : l < 4) : CG (x_dropLock m b t l).2 b := by
  unfold x_dropLock
  have ar := h.reach (w := mv m (b + 5 + l) 0) (v := Int32.ofNat 0) ht
  have f2 := h.fall ht (show 2 < 5 by omega)
  generalize x_reach m b t (mv m (b + 5 + l) 0) (Int32.ofNat 0) = c at ar ⊢
  generalize x_fall m b t 2 = c2 at f2 ⊢
  have al : ∀ x y z u : Int32, CG (x_logAdd c.2 b x y z u) b := fun x y z u => ar.logAdd _ _ _ _
  refine cndi (fun q : QM => CG q.2 b) (cndi (fun q : QM => CG q.2 b) ar (cndi (fun q : QM => CG q.2 b) ar (al _ _ _ _))) (cndh (fun q : QM => CG q.2 b) (fun _ => cndi (fun q : QM => CG q.2 b) ar (cndi (fun q : QM => CG q.2 b) ar (al _ _ _ _))) (fun h1 => cndi (fun q : QM => CG q.2 b) ?_ f2))
  have hp := lo_pos h1
  have hq4 := h.q4 ht
  have e : m (b + 14 + 7 * t) 5 - Int32.ofNat 1 = Int32.ofNat (mv m (b + 14 + 7 * t) 5 - 1) := by rw [← zsubN hp, ← h.q ht]
  rw [e]
  have hs := h.setq (n := mv m (b + 14 + 7 * t) 5 - 1) ht (by omega)
  exact cndi (fun q : QM => CG q.2 b) hs (hs.keep ht hl)
end
section
theorem CG.seto {m : Nat → Nat → Int32} {b n : Nat} (h : CG m b) (hn : n ≤ 20) : CG (zm2 m b 12 (Int32.ofNat n)) b :=
  ⟨h.1.of (zx_ne _ _ _ (by omega)), h.2.1.of (zx_nk _ _ (by omega)), fun u hu => ⟨(h.2.2.1 u hu).1.of (zx_ne _ _ _ (by omega)), fun k hk => ((h.2.2.1 u hu).2 k hk).of (zx_ne _ _ _ (by omega))⟩, okm.is (zx_at _ _ _ _) hn (by omega), fun l hl => (h.2.2.2.2 l hl).of (zx_ne _ _ _ (by omega))⟩
theorem CG.putOut {m : Nat → Nat → Int32} {b t : Nat} (h : CG m b) (ht : t < 4) : CG (x_putOut m b t).2 b := by
  unfold x_putOut
  have f3 := h.fall ht (show 3 < 5 by omega)
  generalize x_fall m b t 3 = c3 at f3 ⊢
  refine cndi (fun q : QM => CG q.2 b) (cndh (fun q : QM => CG q.2 b) (fun _ => h.logAdd _ _ _ _) (fun hc => CG.logAdd ?_ _ _ _ _)) f3
  have ho := h.2.2.2.1
  have hlt := zge_lt (by have := ho.2; omega) (by omega) hc
  have h5 : CG (zm2 (zm2 m (b + 38) (mv m b 12) (Int32.ofNat t)) (b + 39) (mv m b 12) (zm2 m (b + 38) (mv m b 12) (Int32.ofNat t) (b + 10 + 7 * t) 4)) b := (h.put _ ncO.1).put _ ncO.2
  have e : zm2 (zm2 m (b + 38) (mv m b 12) (Int32.ofNat t)) (b + 39) (mv m b 12) (zm2 m (b + 38) (mv m b 12) (Int32.ofNat t) (b + 10 + 7 * t) 4) b 12 + Int32.ofNat 1 = Int32.ofNat (mv m b 12 + 1) := by
    rw [zx_ne _ _ _ (by omega), zx_ne _ _ _ (by omega), Int32.ofNat_add, ← ho.1]
  rw [e]
  exact h5.seto (by omega)
theorem CG.moveOn {m : Nat → Nat → Int32} {b t : Nat} (h : CG m b) (ht : t < 4) : CG (x_moveOn m b t).2 b := by
  unfold x_moveOn
  have h1 : CG (zm2 (zm2 m (b + 10 + 7 * t) 3 (m (b + 10 + 7 * t) 3 + Int32.ofNat 1)) (b + 10 + 7 * t) 7 (Int32.ofNat 0)) b := (h.put _ (ncS ht)).put _ (ncS ht)
  generalize zm2 (zm2 m (b + 10 + 7 * t) 3 (m (b + 10 + 7 * t) 3 + Int32.ofNat 1)) (b + 10 + 7 * t) 7 (Int32.ofNat 0) = m1 at h1 ⊢
  exact cndi (fun q : QM => CG q.2 b) (cndi (fun q : QM => CG q.2 b) (h1.logAdd _ _ _ _) (h1.fall ht (by omega))) h1
noncomputable def x_stepE (m : Nat → Nat → Int32) (b : Nat) (t : Nat) (r : Int32) : Int32 × (Nat → Nat → Int32) := (bif zc2 .ne r (Int32.ofNat 1) then (r, (zm2 ((zm2 m b 7 ((m b 7) + (Int32.ofNat 1)))) b 8 (Int32.ofNat t))) else ((x_moveOn m b t).1, (zm2 ((zm2 ((x_moveOn m b t).2) b 7 ((((x_moveOn m b t).2) b 7) + (Int32.ofNat 1)))) b 8 (Int32.ofNat t))))
theorem xp_stepE {σ : Nat → Nat × (Nat → Int32)} {yy : (Nat → Nat → Int64) × Bool × Nat × Nat} {m : Nat → Nat → Int32} {b : Nat} {t : Nat} {x3 : Option Value} {r : Int32} {d : Nat} (hd : 4 ≤ d + 1) (hb : BB b) (hc : CG m b) (ht : t < 4) : zEv σ (d + 1) 611 183 [some (.ref b), some (.int (Int32.ofNat t)), some (.ref (b + 10 + 7 * t)), x3, some (.int r)] [] (zS1, m, yy) (.inl (some (.int (x_stepE m b t r).1))) (zS1, ((x_stepE m b t r).2), yy) := by
  refine zeP rfl rfl ?_
  refine zeKn (c := 1) rfl rfl rfl ?_
  refine zeB2 rfl rfl (fun h1 => ?_) (fun h1 => ?_)
  · refine zeP rfl rfl ?_
    refine zeP rfl rfl ?_
    refine zeGI rfl rfl (shM hb) rfl rfl ?_
    refine zeKn (c := 1) rfl rfl rfl ?_
    refine zeP rfl rfl ?_
    refine zePI rfl rfl (shM hb) rfl ?_
    refine zeP rfl rfl ?_
    refine zeP rfl rfl ?_
    refine zePI rfl rfl (shM hb) rfl ?_
    refine zeP rfl rfl ?_
    exact zeRe rfl rfl rfl rfl (by simp only [x_stepE, h1, cond_true, cond_false] <;> rfl) (by simp only [x_stepE, h1, cond_true, cond_false] <;> rfl)
  · refine zeP rfl rfl ?_
    refine zeP rfl rfl ?_
    refine zeP rfl rfl ?_
    refine zeCV rfl rfl rfl rfl (shM hb) rfl (xc_moveOn (m := m) (b := b) (t := t) hb hc ht) (by omega) ?_
    dsimp only [Option.toList, List.cons_append, List.nil_append]
    refine zeP rfl rfl ?_
    refine zeP rfl rfl ?_
    refine zeP rfl rfl ?_
    refine zeGI rfl rfl (shM hb) rfl rfl ?_
    refine zeKn (c := 1) rfl rfl rfl ?_
    refine zeP rfl rfl ?_
    refine zePI rfl rfl (shM hb) rfl ?_
    refine zeP rfl rfl ?_
    refine zeP rfl rfl ?_
    refine zePI rfl rfl (shM hb) rfl ?_
    refine zeP rfl rfl ?_
    exact zeRe rfl rfl rfl rfl (by simp only [x_stepE, h1, cond_true, cond_false] <;> rfl) (by simp only [x_stepE, h1, cond_true, cond_false] <;> rfl)
theorem CG.stepE {m : Nat → Nat → Int32} {b t : Nat} {r : Int32} (h : CG m b) (ht : t < 4) : CG (x_stepE m b t r).2 b := by
  unfold x_stepE
  have a := h.moveOn ht
  generalize x_moveOn m b t = c at a ⊢
  exact cndi (fun q : QM => CG q.2 b) ((h.put _ (ncM (by omega) (by omega))).put _ (ncM (by omega) (by omega))) ((a.put _ (ncM (by omega) (by omega))).put _ (ncM (by omega) (by omega)))
noncomputable def x_takeStep0 (m : Nat → Nat → Int32) (b : Nat) (t : Nat) : Int32 × (Nat → Nat → Int32) := (bif zc1 .eq (m ((b + 14 + 7 * t)) 0) then (x_stepE ((x_takePlainly m b t ((mv m (b + 12 + 7 * t) (mv m (b + 10 + 7 * t) 3)))).2) b t ((x_takePlainly m b t ((mv m (b + 12 + 7 * t) (mv m (b + 10 + 7 * t) 3)))).1)) else (x_stepE ((x_takeGuessing m b t ((mv m (b + 12 + 7 * t) (mv m (b + 10 + 7 * t) 3)))).2) b t ((x_takeGuessing m b t ((mv m (b + 12 + 7 * t) (mv m (b + 10 + 7 * t) 3)))).1)))
theorem xp_takeStep0 {σ : Nat → Nat × (Nat → Int32)} {yy : (Nat → Nat → Int64) × Bool × Nat × Nat} {m : Nat → Nat → Int32} {b : Nat} {t : Nat} {d : Nat} (hd : 5 ≤ d + 1) (hb : BB b) (hc : CG m b) (ht : t < 4) (hA : m (b + 10 + 7 * t) 3 = Int32.ofNat (mv m (b + 10 + 7 * t) 3)) (hA24 : mv m (b + 10 + 7 * t) 3 < 24) (hN : m (b + 12 + 7 * t) (mv m (b + 10 + 7 * t) 3) = Int32.ofNat (mv m (b + 12 + 7 * t) (mv m (b + 10 + 7 * t) 3))) (hK : m (b + 11 + 7 * t) (mv m (b + 10 + 7 * t) 3) = Int32.ofNat 0) (hn : mv m (b + 12 + 7 * t) (mv m (b + 10 + 7 * t) 3) < 4) : zEv σ (d + 1) 611 0 [some (.ref b), some (.int (Int32.ofNat t)), none, none, none] [] (zS1, m, yy) (.inl (some (.int (x_takeStep0 m b t).1))) (zS1, ((x_takeStep0 m b t).2), yy) := by
  refine zeP rfl rfl ?_
  refine zeP rfl rfl ?_
  refine zeCV rfl rfl rfl rfl (shM hb) rfl (xc_strandAt (m := m) (b := b) (t := t) hb ht) (by omega) ?_
  dsimp only [Option.toList, List.cons_append, List.nil_append]
  refine zeP rfl rfl ?_
  refine zeP rfl rfl ?_
  refine zeP rfl rfl ?_
  refine zeGI rfl rfl (shS hb (by omega)) rfl rfl ?_
  rw [hA]
  refine zeCV rfl rfl rfl rfl (shS hb (by omega)) rfl (xc_numberAt (m := m) (b := b) (t := t) (p := (mv m (b + 10 + 7 * t) 3)) hb ht hA24) (by omega) ?_
  dsimp only [Option.toList, List.cons_append, List.nil_append]
  rw [show x_numberAt m b t (mv m (b + 10 + 7 * t) 3) = Int32.ofNat (mv m (b + 12 + 7 * t) (mv m (b + 10 + 7 * t) 3)) from hN]
  refine zeP rfl rfl ?_
  refine zeKn (c := 1) rfl rfl rfl ?_
  refine zeP rfl rfl ?_
  refine zeP rfl rfl ?_
  refine zeP rfl rfl ?_
  refine zeGI rfl rfl (shS hb (by omega)) rfl rfl ?_
  rw [hA]
  refine zeCV rfl rfl rfl rfl (shS hb (by omega)) rfl (xc_kindAt (m := m) (b := b) (t := t) (p := (mv m (b + 10 + 7 * t) 3)) hb ht hA24) (by omega) ?_
  dsimp only [Option.toList, List.cons_append, List.nil_append]
  rw [show x_kindAt m b t (mv m (b + 10 + 7 * t) 3) = Int32.ofNat 0 from hK]
  refine zeP rfl rfl ?_
  refine zeP rfl rfl ?_
  refine zeGR rfl rfl (shS hb (by omega)) rfl rfl ?_
  refine zeGI rfl rfl (shG hb (by omega)) rfl rfl ?_
  refine zeB1 rfl rfl (fun h1 => ?_) (fun h1 => ?_)
  · refine zeP rfl rfl ?_
    refine zeP rfl rfl ?_
    refine zeP rfl rfl ?_
    refine zeP rfl rfl ?_
    refine zeCV rfl rfl rfl rfl (shM hb) rfl (xc_takePlainly (m := m) (b := b) (t := t) (l := (mv m (b + 12 + 7 * t) (mv m (b + 10 + 7 * t) 3))) hb hc ht hn) (by omega) ?_
    dsimp only [Option.toList, List.cons_append, List.nil_append]
    refine zeP rfl rfl ?_
    refine zeP rfl rfl ?_
    simp only [x_takeStep0, h1, cond_true, cond_false]
    exact xp_stepE (b := b) (t := t) (x3 := some (.int (Int32.ofNat (mv m (b + 12 + 7 * t) (mv m (b + 10 + 7 * t) 3))))) (r := (x_takePlainly m b t ((mv m (b + 12 + 7 * t) (mv m (b + 10 + 7 * t) 3)))).1) (m := (x_takePlainly m b t ((mv m (b + 12 + 7 * t) (mv m (b + 10 + 7 * t) 3)))).2) (by omega) hb (by first | exact hc.takeGuessing ht hn | exact hc.takePlainly ht hn) ht
  · refine zeP rfl rfl ?_
    refine zeP rfl rfl ?_
    refine zeP rfl rfl ?_
    refine zeP rfl rfl ?_
    refine zeCV rfl rfl rfl rfl (shM hb) rfl (xc_takeGuessing (m := m) (b := b) (t := t) (l := (mv m (b + 12 + 7 * t) (mv m (b + 10 + 7 * t) 3))) hb hc ht hn) (by omega) ?_
    dsimp only [Option.toList, List.cons_append, List.nil_append]
    refine zeP rfl rfl ?_
    refine zeP rfl rfl ?_
    refine zeP rfl rfl ?_
    simp only [x_takeStep0, h1, cond_true, cond_false]
    exact xp_stepE (b := b) (t := t) (x3 := some (.int (Int32.ofNat (mv m (b + 12 + 7 * t) (mv m (b + 10 + 7 * t) 3))))) (r := (x_takeGuessing m b t ((mv m (b + 12 + 7 * t) (mv m (b + 10 + 7 * t) 3)))).1) (m := (x_takeGuessing m b t ((mv m (b + 12 + 7 * t) (mv m (b + 10 + 7 * t) 3)))).2) (by omega) hb (by first | exact hc.takeGuessing ht hn | exact hc.takePlainly ht hn) ht
theorem xc_takeStep0 {σ : Nat → Nat × (Nat → Int32)} {yy : (Nat → Nat → Int64) × Bool × Nat × Nat} {m : Nat → Nat → Int32} {b : Nat} {t : Nat} (hb : BB b) (hc : CG m b) (ht : t < 4) (hA : m (b + 10 + 7 * t) 3 = Int32.ofNat (mv m (b + 10 + 7 * t) 3)) (hA24 : mv m (b + 10 + 7 * t) 3 < 24) (hN : m (b + 12 + 7 * t) (mv m (b + 10 + 7 * t) 3) = Int32.ofNat (mv m (b + 12 + 7 * t) (mv m (b + 10 + 7 * t) 3))) (hK : m (b + 11 + 7 * t) (mv m (b + 10 + 7 * t) 3) = Int32.ofNat 0) (hn : mv m (b + 12 + 7 * t) (mv m (b + 10 + 7 * t) 3) < 4) : zF σ 5 611 [.ref b, .int (Int32.ofNat t)] (zS1, m, yy) (.inl (some (.int (x_takeStep0 m b t).1))) (zS1, ((x_takeStep0 m b t).2), yy) := by
  intro d hd
  obtain ⟨d, rfl⟩ : ∃ k, d = k + 1 := ⟨d - 1, by omega⟩
  exact xp_takeStep0 hd hb hc ht hA hA24 hN hK hn
noncomputable def x_takeStep1 (m : Nat → Nat → Int32) (b : Nat) (t : Nat) : Int32 × (Nat → Nat → Int32) := (x_stepE ((x_dropLock m b t ((mv m (b + 12 + 7 * t) (mv m (b + 10 + 7 * t) 3)))).2) b t ((x_dropLock m b t ((mv m (b + 12 + 7 * t) (mv m (b + 10 + 7 * t) 3)))).1))
theorem xp_takeStep1 {σ : Nat → Nat × (Nat → Int32)} {yy : (Nat → Nat → Int64) × Bool × Nat × Nat} {m : Nat → Nat → Int32} {b : Nat} {t : Nat} {d : Nat} (hd : 5 ≤ d + 1) (hb : BB b) (hc : CG m b) (ht : t < 4) (hA : m (b + 10 + 7 * t) 3 = Int32.ofNat (mv m (b + 10 + 7 * t) 3)) (hA24 : mv m (b + 10 + 7 * t) 3 < 24) (hN : m (b + 12 + 7 * t) (mv m (b + 10 + 7 * t) 3) = Int32.ofNat (mv m (b + 12 + 7 * t) (mv m (b + 10 + 7 * t) 3))) (hK : m (b + 11 + 7 * t) (mv m (b + 10 + 7 * t) 3) = Int32.ofNat 1) (hn : mv m (b + 12 + 7 * t) (mv m (b + 10 + 7 * t) 3) < 4) : zEv σ (d + 1) 611 0 [some (.ref b), some (.int (Int32.ofNat t)), none, none, none] [] (zS1, m, yy) (.inl (some (.int (x_takeStep1 m b t).1))) (zS1, ((x_takeStep1 m b t).2), yy) := by
  refine zeP rfl rfl ?_
  refine zeP rfl rfl ?_
  refine zeCV rfl rfl rfl rfl (shM hb) rfl (xc_strandAt (m := m) (b := b) (t := t) hb ht) (by omega) ?_
  dsimp only [Option.toList, List.cons_append, List.nil_append]
  refine zeP rfl rfl ?_
  refine zeP rfl rfl ?_
  refine zeP rfl rfl ?_
  refine zeGI rfl rfl (shS hb (by omega)) rfl rfl ?_
  rw [hA]
  refine zeCV rfl rfl rfl rfl (shS hb (by omega)) rfl (xc_numberAt (m := m) (b := b) (t := t) (p := (mv m (b + 10 + 7 * t) 3)) hb ht hA24) (by omega) ?_
  dsimp only [Option.toList, List.cons_append, List.nil_append]
  rw [show x_numberAt m b t (mv m (b + 10 + 7 * t) 3) = Int32.ofNat (mv m (b + 12 + 7 * t) (mv m (b + 10 + 7 * t) 3)) from hN]
  refine zeP rfl rfl ?_
  refine zeKn (c := 1) rfl rfl rfl ?_
  refine zeP rfl rfl ?_
  refine zeP rfl rfl ?_
  refine zeP rfl rfl ?_
  refine zeGI rfl rfl (shS hb (by omega)) rfl rfl ?_
  rw [hA]
  refine zeCV rfl rfl rfl rfl (shS hb (by omega)) rfl (xc_kindAt (m := m) (b := b) (t := t) (p := (mv m (b + 10 + 7 * t) 3)) hb ht hA24) (by omega) ?_
  dsimp only [Option.toList, List.cons_append, List.nil_append]
  rw [show x_kindAt m b t (mv m (b + 10 + 7 * t) 3) = Int32.ofNat 1 from hK]
  refine zeP rfl rfl ?_
  refine zeP rfl rfl ?_
  refine zeP rfl rfl ?_
  refine zeP rfl rfl ?_
  refine zeP rfl rfl ?_
  refine zeCV rfl rfl rfl rfl (shM hb) rfl (xc_dropLock (m := m) (b := b) (t := t) (l := (mv m (b + 12 + 7 * t) (mv m (b + 10 + 7 * t) 3))) hb hc ht hn) (by omega) ?_
  dsimp only [Option.toList, List.cons_append, List.nil_append]
  refine zeP rfl rfl ?_
  refine zeP rfl rfl ?_
  simp only [x_takeStep1, cond_true, cond_false]
  exact xp_stepE (b := b) (t := t) (x3 := some (.int (Int32.ofNat (mv m (b + 12 + 7 * t) (mv m (b + 10 + 7 * t) 3))))) (r := (x_dropLock m b t ((mv m (b + 12 + 7 * t) (mv m (b + 10 + 7 * t) 3)))).1) (m := (x_dropLock m b t ((mv m (b + 12 + 7 * t) (mv m (b + 10 + 7 * t) 3)))).2) (by omega) hb (hc.dropLock ht hn) ht
theorem xc_takeStep1 {σ : Nat → Nat × (Nat → Int32)} {yy : (Nat → Nat → Int64) × Bool × Nat × Nat} {m : Nat → Nat → Int32} {b : Nat} {t : Nat} (hb : BB b) (hc : CG m b) (ht : t < 4) (hA : m (b + 10 + 7 * t) 3 = Int32.ofNat (mv m (b + 10 + 7 * t) 3)) (hA24 : mv m (b + 10 + 7 * t) 3 < 24) (hN : m (b + 12 + 7 * t) (mv m (b + 10 + 7 * t) 3) = Int32.ofNat (mv m (b + 12 + 7 * t) (mv m (b + 10 + 7 * t) 3))) (hK : m (b + 11 + 7 * t) (mv m (b + 10 + 7 * t) 3) = Int32.ofNat 1) (hn : mv m (b + 12 + 7 * t) (mv m (b + 10 + 7 * t) 3) < 4) : zF σ 5 611 [.ref b, .int (Int32.ofNat t)] (zS1, m, yy) (.inl (some (.int (x_takeStep1 m b t).1))) (zS1, ((x_takeStep1 m b t).2), yy) := by
  intro d hd
  obtain ⟨d, rfl⟩ : ∃ k, d = k + 1 := ⟨d - 1, by omega⟩
  exact xp_takeStep1 hd hb hc ht hA hA24 hN hK hn
noncomputable def x_takeStep2 (m : Nat → Nat → Int32) (b : Nat) (t : Nat) : Int32 × (Nat → Nat → Int32) := (x_stepE ((x_getWord m b t ((mv m (b + 12 + 7 * t) (mv m (b + 10 + 7 * t) 3)))).2) b t ((x_getWord m b t ((mv m (b + 12 + 7 * t) (mv m (b + 10 + 7 * t) 3)))).1))
theorem xp_takeStep2 {σ : Nat → Nat × (Nat → Int32)} {yy : (Nat → Nat → Int64) × Bool × Nat × Nat} {m : Nat → Nat → Int32} {b : Nat} {t : Nat} {d : Nat} (hd : 5 ≤ d + 1) (hb : BB b) (hc : CG m b) (ht : t < 4) (hA : m (b + 10 + 7 * t) 3 = Int32.ofNat (mv m (b + 10 + 7 * t) 3)) (hA24 : mv m (b + 10 + 7 * t) 3 < 24) (hN : m (b + 12 + 7 * t) (mv m (b + 10 + 7 * t) 3) = Int32.ofNat (mv m (b + 12 + 7 * t) (mv m (b + 10 + 7 * t) 3))) (hK : m (b + 11 + 7 * t) (mv m (b + 10 + 7 * t) 3) = Int32.ofNat 2) (hn : mv m (b + 12 + 7 * t) (mv m (b + 10 + 7 * t) 3) < 32) : zEv σ (d + 1) 611 0 [some (.ref b), some (.int (Int32.ofNat t)), none, none, none] [] (zS1, m, yy) (.inl (some (.int (x_takeStep2 m b t).1))) (zS1, ((x_takeStep2 m b t).2), yy) := by
  refine zeP rfl rfl ?_
  refine zeP rfl rfl ?_
  refine zeCV rfl rfl rfl rfl (shM hb) rfl (xc_strandAt (m := m) (b := b) (t := t) hb ht) (by omega) ?_
  dsimp only [Option.toList, List.cons_append, List.nil_append]
  refine zeP rfl rfl ?_
  refine zeP rfl rfl ?_
  refine zeP rfl rfl ?_
  refine zeGI rfl rfl (shS hb (by omega)) rfl rfl ?_
  rw [hA]
  refine zeCV rfl rfl rfl rfl (shS hb (by omega)) rfl (xc_numberAt (m := m) (b := b) (t := t) (p := (mv m (b + 10 + 7 * t) 3)) hb ht hA24) (by omega) ?_
  dsimp only [Option.toList, List.cons_append, List.nil_append]
  rw [show x_numberAt m b t (mv m (b + 10 + 7 * t) 3) = Int32.ofNat (mv m (b + 12 + 7 * t) (mv m (b + 10 + 7 * t) 3)) from hN]
  refine zeP rfl rfl ?_
  refine zeKn (c := 1) rfl rfl rfl ?_
  refine zeP rfl rfl ?_
  refine zeP rfl rfl ?_
  refine zeP rfl rfl ?_
  refine zeGI rfl rfl (shS hb (by omega)) rfl rfl ?_
  rw [hA]
  refine zeCV rfl rfl rfl rfl (shS hb (by omega)) rfl (xc_kindAt (m := m) (b := b) (t := t) (p := (mv m (b + 10 + 7 * t) 3)) hb ht hA24) (by omega) ?_
  dsimp only [Option.toList, List.cons_append, List.nil_append]
  rw [show x_kindAt m b t (mv m (b + 10 + 7 * t) 3) = Int32.ofNat 2 from hK]
  refine zeP rfl rfl ?_
  refine zeP rfl rfl ?_
  refine zeP rfl rfl ?_
  refine zeP rfl rfl ?_
  refine zeP rfl rfl ?_
  refine zeCV rfl rfl rfl rfl (shM hb) rfl (xc_getWord (m := m) (b := b) (t := t) (w := (mv m (b + 12 + 7 * t) (mv m (b + 10 + 7 * t) 3))) hb hc ht hn) (by omega) ?_
  dsimp only [Option.toList, List.cons_append, List.nil_append]
  refine zeP rfl rfl ?_
  refine zeP rfl rfl ?_
  simp only [x_takeStep2, cond_true, cond_false]
  exact xp_stepE (b := b) (t := t) (x3 := some (.int (Int32.ofNat (mv m (b + 12 + 7 * t) (mv m (b + 10 + 7 * t) 3))))) (r := (x_getWord m b t ((mv m (b + 12 + 7 * t) (mv m (b + 10 + 7 * t) 3)))).1) (m := (x_getWord m b t ((mv m (b + 12 + 7 * t) (mv m (b + 10 + 7 * t) 3)))).2) (by omega) hb (hc.getWord ht) ht
theorem xc_takeStep2 {σ : Nat → Nat × (Nat → Int32)} {yy : (Nat → Nat → Int64) × Bool × Nat × Nat} {m : Nat → Nat → Int32} {b : Nat} {t : Nat} (hb : BB b) (hc : CG m b) (ht : t < 4) (hA : m (b + 10 + 7 * t) 3 = Int32.ofNat (mv m (b + 10 + 7 * t) 3)) (hA24 : mv m (b + 10 + 7 * t) 3 < 24) (hN : m (b + 12 + 7 * t) (mv m (b + 10 + 7 * t) 3) = Int32.ofNat (mv m (b + 12 + 7 * t) (mv m (b + 10 + 7 * t) 3))) (hK : m (b + 11 + 7 * t) (mv m (b + 10 + 7 * t) 3) = Int32.ofNat 2) (hn : mv m (b + 12 + 7 * t) (mv m (b + 10 + 7 * t) 3) < 32) : zF σ 5 611 [.ref b, .int (Int32.ofNat t)] (zS1, m, yy) (.inl (some (.int (x_takeStep2 m b t).1))) (zS1, ((x_takeStep2 m b t).2), yy) := by
  intro d hd
  obtain ⟨d, rfl⟩ : ∃ k, d = k + 1 := ⟨d - 1, by omega⟩
  exact xp_takeStep2 hd hb hc ht hA hA24 hN hK hn
noncomputable def x_takeStep3 (m : Nat → Nat → Int32) (b : Nat) (t : Nat) : Int32 × (Nat → Nat → Int32) := (x_stepE ((x_reach m b t ((mv m (b + 12 + 7 * t) (mv m (b + 10 + 7 * t) 3))) ((m ((b + 10 + 7 * t)) 4))).2) b t ((x_reach m b t ((mv m (b + 12 + 7 * t) (mv m (b + 10 + 7 * t) 3))) ((m ((b + 10 + 7 * t)) 4))).1))
theorem xp_takeStep3 {σ : Nat → Nat × (Nat → Int32)} {yy : (Nat → Nat → Int64) × Bool × Nat × Nat} {m : Nat → Nat → Int32} {b : Nat} {t : Nat} {d : Nat} (hd : 4 ≤ d + 1) (hb : BB b) (hc : CG m b) (ht : t < 4) (hA : m (b + 10 + 7 * t) 3 = Int32.ofNat (mv m (b + 10 + 7 * t) 3)) (hA24 : mv m (b + 10 + 7 * t) 3 < 24) (hN : m (b + 12 + 7 * t) (mv m (b + 10 + 7 * t) 3) = Int32.ofNat (mv m (b + 12 + 7 * t) (mv m (b + 10 + 7 * t) 3))) (hK : m (b + 11 + 7 * t) (mv m (b + 10 + 7 * t) 3) = Int32.ofNat 3) (hn : mv m (b + 12 + 7 * t) (mv m (b + 10 + 7 * t) 3) < 32) : zEv σ (d + 1) 611 0 [some (.ref b), some (.int (Int32.ofNat t)), none, none, none] [] (zS1, m, yy) (.inl (some (.int (x_takeStep3 m b t).1))) (zS1, ((x_takeStep3 m b t).2), yy) := by
  refine zeP rfl rfl ?_
  refine zeP rfl rfl ?_
  refine zeCV rfl rfl rfl rfl (shM hb) rfl (xc_strandAt (m := m) (b := b) (t := t) hb ht) (by omega) ?_
  dsimp only [Option.toList, List.cons_append, List.nil_append]
  refine zeP rfl rfl ?_
  refine zeP rfl rfl ?_
  refine zeP rfl rfl ?_
  refine zeGI rfl rfl (shS hb (by omega)) rfl rfl ?_
  rw [hA]
  refine zeCV rfl rfl rfl rfl (shS hb (by omega)) rfl (xc_numberAt (m := m) (b := b) (t := t) (p := (mv m (b + 10 + 7 * t) 3)) hb ht hA24) (by omega) ?_
  dsimp only [Option.toList, List.cons_append, List.nil_append]
  rw [show x_numberAt m b t (mv m (b + 10 + 7 * t) 3) = Int32.ofNat (mv m (b + 12 + 7 * t) (mv m (b + 10 + 7 * t) 3)) from hN]
  refine zeP rfl rfl ?_
  refine zeKn (c := 1) rfl rfl rfl ?_
  refine zeP rfl rfl ?_
  refine zeP rfl rfl ?_
  refine zeP rfl rfl ?_
  refine zeGI rfl rfl (shS hb (by omega)) rfl rfl ?_
  rw [hA]
  refine zeCV rfl rfl rfl rfl (shS hb (by omega)) rfl (xc_kindAt (m := m) (b := b) (t := t) (p := (mv m (b + 10 + 7 * t) 3)) hb ht hA24) (by omega) ?_
  dsimp only [Option.toList, List.cons_append, List.nil_append]
  rw [show x_kindAt m b t (mv m (b + 10 + 7 * t) 3) = Int32.ofNat 3 from hK]
  refine zeP rfl rfl ?_
  refine zeP rfl rfl ?_
  refine zeP rfl rfl ?_
  refine zeP rfl rfl ?_
  refine zeP rfl rfl ?_
  refine zeGI rfl rfl (shS hb (by omega)) rfl rfl ?_
  refine zeCV rfl rfl rfl rfl (shM hb) rfl (xc_reach (m := m) (b := b) (t := t) (w := (mv m (b + 12 + 7 * t) (mv m (b + 10 + 7 * t) 3))) (v := (m ((b + 10 + 7 * t)) 4)) hb hc ht hn) (by omega) ?_
  dsimp only [Option.toList, List.cons_append, List.nil_append]
  refine zeP rfl rfl ?_
  refine zeP rfl rfl ?_
  simp only [x_takeStep3, cond_true, cond_false]
  exact xp_stepE (b := b) (t := t) (x3 := some (.int (Int32.ofNat (mv m (b + 12 + 7 * t) (mv m (b + 10 + 7 * t) 3))))) (r := (x_reach m b t ((mv m (b + 12 + 7 * t) (mv m (b + 10 + 7 * t) 3))) ((m ((b + 10 + 7 * t)) 4))).1) (m := (x_reach m b t ((mv m (b + 12 + 7 * t) (mv m (b + 10 + 7 * t) 3))) ((m ((b + 10 + 7 * t)) 4))).2) (by omega) hb (hc.reach ht) ht
theorem xc_takeStep3 {σ : Nat → Nat × (Nat → Int32)} {yy : (Nat → Nat → Int64) × Bool × Nat × Nat} {m : Nat → Nat → Int32} {b : Nat} {t : Nat} (hb : BB b) (hc : CG m b) (ht : t < 4) (hA : m (b + 10 + 7 * t) 3 = Int32.ofNat (mv m (b + 10 + 7 * t) 3)) (hA24 : mv m (b + 10 + 7 * t) 3 < 24) (hN : m (b + 12 + 7 * t) (mv m (b + 10 + 7 * t) 3) = Int32.ofNat (mv m (b + 12 + 7 * t) (mv m (b + 10 + 7 * t) 3))) (hK : m (b + 11 + 7 * t) (mv m (b + 10 + 7 * t) 3) = Int32.ofNat 3) (hn : mv m (b + 12 + 7 * t) (mv m (b + 10 + 7 * t) 3) < 32) : zF σ 4 611 [.ref b, .int (Int32.ofNat t)] (zS1, m, yy) (.inl (some (.int (x_takeStep3 m b t).1))) (zS1, ((x_takeStep3 m b t).2), yy) := by
  intro d hd
  obtain ⟨d, rfl⟩ : ∃ k, d = k + 1 := ⟨d - 1, by omega⟩
  exact xp_takeStep3 hd hb hc ht hA hA24 hN hK hn
noncomputable def x_takeStep4 (m : Nat → Nat → Int32) (b : Nat) (t : Nat) : Int32 × (Nat → Nat → Int32) := (x_stepE ((zm2 m ((b + 10 + 7 * t)) 4 (Int32.ofNat (mv m (b + 12 + 7 * t) (mv m (b + 10 + 7 * t) 3))))) b t ((Int32.ofNat 1)))
theorem xp_takeStep4 {σ : Nat → Nat × (Nat → Int32)} {yy : (Nat → Nat → Int64) × Bool × Nat × Nat} {m : Nat → Nat → Int32} {b : Nat} {t : Nat} {d : Nat} (hd : 4 ≤ d + 1) (hb : BB b) (hc : CG m b) (ht : t < 4) (hA : m (b + 10 + 7 * t) 3 = Int32.ofNat (mv m (b + 10 + 7 * t) 3)) (hA24 : mv m (b + 10 + 7 * t) 3 < 24) (hN : m (b + 12 + 7 * t) (mv m (b + 10 + 7 * t) 3) = Int32.ofNat (mv m (b + 12 + 7 * t) (mv m (b + 10 + 7 * t) 3))) (hK : m (b + 11 + 7 * t) (mv m (b + 10 + 7 * t) 3) = Int32.ofNat 4) : zEv σ (d + 1) 611 0 [some (.ref b), some (.int (Int32.ofNat t)), none, none, none] [] (zS1, m, yy) (.inl (some (.int (x_takeStep4 m b t).1))) (zS1, ((x_takeStep4 m b t).2), yy) := by
  refine zeP rfl rfl ?_
  refine zeP rfl rfl ?_
  refine zeCV rfl rfl rfl rfl (shM hb) rfl (xc_strandAt (m := m) (b := b) (t := t) hb ht) (by omega) ?_
  dsimp only [Option.toList, List.cons_append, List.nil_append]
  refine zeP rfl rfl ?_
  refine zeP rfl rfl ?_
  refine zeP rfl rfl ?_
  refine zeGI rfl rfl (shS hb (by omega)) rfl rfl ?_
  rw [hA]
  refine zeCV rfl rfl rfl rfl (shS hb (by omega)) rfl (xc_numberAt (m := m) (b := b) (t := t) (p := (mv m (b + 10 + 7 * t) 3)) hb ht hA24) (by omega) ?_
  dsimp only [Option.toList, List.cons_append, List.nil_append]
  rw [show x_numberAt m b t (mv m (b + 10 + 7 * t) 3) = Int32.ofNat (mv m (b + 12 + 7 * t) (mv m (b + 10 + 7 * t) 3)) from hN]
  refine zeP rfl rfl ?_
  refine zeKn (c := 1) rfl rfl rfl ?_
  refine zeP rfl rfl ?_
  refine zeP rfl rfl ?_
  refine zeP rfl rfl ?_
  refine zeGI rfl rfl (shS hb (by omega)) rfl rfl ?_
  rw [hA]
  refine zeCV rfl rfl rfl rfl (shS hb (by omega)) rfl (xc_kindAt (m := m) (b := b) (t := t) (p := (mv m (b + 10 + 7 * t) 3)) hb ht hA24) (by omega) ?_
  dsimp only [Option.toList, List.cons_append, List.nil_append]
  rw [show x_kindAt m b t (mv m (b + 10 + 7 * t) 3) = Int32.ofNat 4 from hK]
  refine zeP rfl rfl ?_
  refine zeP rfl rfl ?_
  refine zeP rfl rfl ?_
  refine zePI rfl rfl (shS hb (by omega)) rfl ?_
  refine zeP rfl rfl ?_
  simp only [x_takeStep4, cond_true, cond_false]
  exact xp_stepE (b := b) (t := t) (x3 := some (.int (Int32.ofNat (mv m (b + 12 + 7 * t) (mv m (b + 10 + 7 * t) 3))))) (r := (Int32.ofNat 1)) (m := (zm2 m ((b + 10 + 7 * t)) 4 (Int32.ofNat (mv m (b + 12 + 7 * t) (mv m (b + 10 + 7 * t) 3))))) (by omega) hb (hc.put _ (ncS ht)) ht
theorem xc_takeStep4 {σ : Nat → Nat × (Nat → Int32)} {yy : (Nat → Nat → Int64) × Bool × Nat × Nat} {m : Nat → Nat → Int32} {b : Nat} {t : Nat} (hb : BB b) (hc : CG m b) (ht : t < 4) (hA : m (b + 10 + 7 * t) 3 = Int32.ofNat (mv m (b + 10 + 7 * t) 3)) (hA24 : mv m (b + 10 + 7 * t) 3 < 24) (hN : m (b + 12 + 7 * t) (mv m (b + 10 + 7 * t) 3) = Int32.ofNat (mv m (b + 12 + 7 * t) (mv m (b + 10 + 7 * t) 3))) (hK : m (b + 11 + 7 * t) (mv m (b + 10 + 7 * t) 3) = Int32.ofNat 4) : zF σ 4 611 [.ref b, .int (Int32.ofNat t)] (zS1, m, yy) (.inl (some (.int (x_takeStep4 m b t).1))) (zS1, ((x_takeStep4 m b t).2), yy) := by
  intro d hd
  obtain ⟨d, rfl⟩ : ∃ k, d = k + 1 := ⟨d - 1, by omega⟩
  exact xp_takeStep4 hd hb hc ht hA hA24 hN hK
noncomputable def x_takeStep5 (m : Nat → Nat → Int32) (b : Nat) (t : Nat) : Int32 × (Nat → Nat → Int32) := (x_stepE ((zm2 m ((b + 10 + 7 * t)) 4 (((m ((b + 10 + 7 * t)) 4) + (Int32.ofNat (mv m (b + 12 + 7 * t) (mv m (b + 10 + 7 * t) 3)))) - ((m ((b + 10 + 7 * t)) 4) + (Int32.ofNat (mv m (b + 12 + 7 * t) (mv m (b + 10 + 7 * t) 3)))) / (Int32.ofNat 10000) * (Int32.ofNat 10000)))) b t ((Int32.ofNat 1)))
theorem xp_takeStep5 {σ : Nat → Nat × (Nat → Int32)} {yy : (Nat → Nat → Int64) × Bool × Nat × Nat} {m : Nat → Nat → Int32} {b : Nat} {t : Nat} {d : Nat} (hd : 4 ≤ d + 1) (hb : BB b) (hc : CG m b) (ht : t < 4) (hA : m (b + 10 + 7 * t) 3 = Int32.ofNat (mv m (b + 10 + 7 * t) 3)) (hA24 : mv m (b + 10 + 7 * t) 3 < 24) (hN : m (b + 12 + 7 * t) (mv m (b + 10 + 7 * t) 3) = Int32.ofNat (mv m (b + 12 + 7 * t) (mv m (b + 10 + 7 * t) 3))) (hK : m (b + 11 + 7 * t) (mv m (b + 10 + 7 * t) 3) = Int32.ofNat 5) : zEv σ (d + 1) 611 0 [some (.ref b), some (.int (Int32.ofNat t)), none, none, none] [] (zS1, m, yy) (.inl (some (.int (x_takeStep5 m b t).1))) (zS1, ((x_takeStep5 m b t).2), yy) := by
  refine zeP rfl rfl ?_
  refine zeP rfl rfl ?_
  refine zeCV rfl rfl rfl rfl (shM hb) rfl (xc_strandAt (m := m) (b := b) (t := t) hb ht) (by omega) ?_
  dsimp only [Option.toList, List.cons_append, List.nil_append]
  refine zeP rfl rfl ?_
  refine zeP rfl rfl ?_
  refine zeP rfl rfl ?_
  refine zeGI rfl rfl (shS hb (by omega)) rfl rfl ?_
  rw [hA]
  refine zeCV rfl rfl rfl rfl (shS hb (by omega)) rfl (xc_numberAt (m := m) (b := b) (t := t) (p := (mv m (b + 10 + 7 * t) 3)) hb ht hA24) (by omega) ?_
  dsimp only [Option.toList, List.cons_append, List.nil_append]
  rw [show x_numberAt m b t (mv m (b + 10 + 7 * t) 3) = Int32.ofNat (mv m (b + 12 + 7 * t) (mv m (b + 10 + 7 * t) 3)) from hN]
  refine zeP rfl rfl ?_
  refine zeKn (c := 1) rfl rfl rfl ?_
  refine zeP rfl rfl ?_
  refine zeP rfl rfl ?_
  refine zeP rfl rfl ?_
  refine zeGI rfl rfl (shS hb (by omega)) rfl rfl ?_
  rw [hA]
  refine zeCV rfl rfl rfl rfl (shS hb (by omega)) rfl (xc_kindAt (m := m) (b := b) (t := t) (p := (mv m (b + 10 + 7 * t) 3)) hb ht hA24) (by omega) ?_
  dsimp only [Option.toList, List.cons_append, List.nil_append]
  rw [show x_kindAt m b t (mv m (b + 10 + 7 * t) 3) = Int32.ofNat 5 from hK]
  refine zeP rfl rfl ?_
  refine zeP rfl rfl ?_
  refine zeP rfl rfl ?_
  refine zeGI rfl rfl (shS hb (by omega)) rfl rfl ?_
  refine zeP rfl rfl ?_
  refine zeP rfl rfl ?_
  refine zeKn (c := 10000) rfl rfl rfl ?_
  refine zeRem rfl (by decide) ?_
  refine zePI rfl rfl (shS hb (by omega)) rfl ?_
  refine zeP rfl rfl ?_
  simp only [x_takeStep5, cond_true, cond_false]
  exact xp_stepE (b := b) (t := t) (x3 := some (.int (Int32.ofNat (mv m (b + 12 + 7 * t) (mv m (b + 10 + 7 * t) 3))))) (r := (Int32.ofNat 1)) (m := (zm2 m ((b + 10 + 7 * t)) 4 (((m ((b + 10 + 7 * t)) 4) + (Int32.ofNat (mv m (b + 12 + 7 * t) (mv m (b + 10 + 7 * t) 3)))) - ((m ((b + 10 + 7 * t)) 4) + (Int32.ofNat (mv m (b + 12 + 7 * t) (mv m (b + 10 + 7 * t) 3)))) / (Int32.ofNat 10000) * (Int32.ofNat 10000)))) (by omega) hb (hc.put _ (ncS ht)) ht
theorem xc_takeStep5 {σ : Nat → Nat × (Nat → Int32)} {yy : (Nat → Nat → Int64) × Bool × Nat × Nat} {m : Nat → Nat → Int32} {b : Nat} {t : Nat} (hb : BB b) (hc : CG m b) (ht : t < 4) (hA : m (b + 10 + 7 * t) 3 = Int32.ofNat (mv m (b + 10 + 7 * t) 3)) (hA24 : mv m (b + 10 + 7 * t) 3 < 24) (hN : m (b + 12 + 7 * t) (mv m (b + 10 + 7 * t) 3) = Int32.ofNat (mv m (b + 12 + 7 * t) (mv m (b + 10 + 7 * t) 3))) (hK : m (b + 11 + 7 * t) (mv m (b + 10 + 7 * t) 3) = Int32.ofNat 5) : zF σ 4 611 [.ref b, .int (Int32.ofNat t)] (zS1, m, yy) (.inl (some (.int (x_takeStep5 m b t).1))) (zS1, ((x_takeStep5 m b t).2), yy) := by
  intro d hd
  obtain ⟨d, rfl⟩ : ∃ k, d = k + 1 := ⟨d - 1, by omega⟩
  exact xp_takeStep5 hd hb hc ht hA hA24 hN hK
theorem work_ok {m : Nat → Nat → Int32} {b t : Nat} {n : Int32} (h : CG m b) (ht : t < 4) : CG (x_goOnWorking m b t n).2 b := by
  unfold x_goOnWorking
  exact cndi (fun q : QM => CG q.2 b) (h.put _ (ncS ht)) (h.put _ (ncS ht))
noncomputable def x_takeStep6 (m : Nat → Nat → Int32) (b : Nat) (t : Nat) : Int32 × (Nat → Nat → Int32) := (x_stepE ((x_goOnWorking m b t ((Int32.ofNat (mv m (b + 12 + 7 * t) (mv m (b + 10 + 7 * t) 3))))).2) b t ((x_goOnWorking m b t ((Int32.ofNat (mv m (b + 12 + 7 * t) (mv m (b + 10 + 7 * t) 3))))).1))
theorem xp_takeStep6 {σ : Nat → Nat × (Nat → Int32)} {yy : (Nat → Nat → Int64) × Bool × Nat × Nat} {m : Nat → Nat → Int32} {b : Nat} {t : Nat} {d : Nat} (hd : 4 ≤ d + 1) (hb : BB b) (hc : CG m b) (ht : t < 4) (hA : m (b + 10 + 7 * t) 3 = Int32.ofNat (mv m (b + 10 + 7 * t) 3)) (hA24 : mv m (b + 10 + 7 * t) 3 < 24) (hN : m (b + 12 + 7 * t) (mv m (b + 10 + 7 * t) 3) = Int32.ofNat (mv m (b + 12 + 7 * t) (mv m (b + 10 + 7 * t) 3))) (hK : m (b + 11 + 7 * t) (mv m (b + 10 + 7 * t) 3) = Int32.ofNat 6) : zEv σ (d + 1) 611 0 [some (.ref b), some (.int (Int32.ofNat t)), none, none, none] [] (zS1, m, yy) (.inl (some (.int (x_takeStep6 m b t).1))) (zS1, ((x_takeStep6 m b t).2), yy) := by
  refine zeP rfl rfl ?_
  refine zeP rfl rfl ?_
  refine zeCV rfl rfl rfl rfl (shM hb) rfl (xc_strandAt (m := m) (b := b) (t := t) hb ht) (by omega) ?_
  dsimp only [Option.toList, List.cons_append, List.nil_append]
  refine zeP rfl rfl ?_
  refine zeP rfl rfl ?_
  refine zeP rfl rfl ?_
  refine zeGI rfl rfl (shS hb (by omega)) rfl rfl ?_
  rw [hA]
  refine zeCV rfl rfl rfl rfl (shS hb (by omega)) rfl (xc_numberAt (m := m) (b := b) (t := t) (p := (mv m (b + 10 + 7 * t) 3)) hb ht hA24) (by omega) ?_
  dsimp only [Option.toList, List.cons_append, List.nil_append]
  rw [show x_numberAt m b t (mv m (b + 10 + 7 * t) 3) = Int32.ofNat (mv m (b + 12 + 7 * t) (mv m (b + 10 + 7 * t) 3)) from hN]
  refine zeP rfl rfl ?_
  refine zeKn (c := 1) rfl rfl rfl ?_
  refine zeP rfl rfl ?_
  refine zeP rfl rfl ?_
  refine zeP rfl rfl ?_
  refine zeGI rfl rfl (shS hb (by omega)) rfl rfl ?_
  rw [hA]
  refine zeCV rfl rfl rfl rfl (shS hb (by omega)) rfl (xc_kindAt (m := m) (b := b) (t := t) (p := (mv m (b + 10 + 7 * t) 3)) hb ht hA24) (by omega) ?_
  dsimp only [Option.toList, List.cons_append, List.nil_append]
  rw [show x_kindAt m b t (mv m (b + 10 + 7 * t) 3) = Int32.ofNat 6 from hK]
  refine zeP rfl rfl ?_
  refine zeP rfl rfl ?_
  refine zeP rfl rfl ?_
  refine zeP rfl rfl ?_
  refine zeCV rfl rfl rfl rfl (shM hb) rfl (xc_goOnWorking (m := m) (b := b) (t := t) (n := (Int32.ofNat (mv m (b + 12 + 7 * t) (mv m (b + 10 + 7 * t) 3)))) hb ht) (by omega) ?_
  dsimp only [Option.toList, List.cons_append, List.nil_append]
  refine zeP rfl rfl ?_
  refine zeP rfl rfl ?_
  simp only [x_takeStep6, cond_true, cond_false]
  exact xp_stepE (b := b) (t := t) (x3 := some (.int (Int32.ofNat (mv m (b + 12 + 7 * t) (mv m (b + 10 + 7 * t) 3))))) (r := (x_goOnWorking m b t ((Int32.ofNat (mv m (b + 12 + 7 * t) (mv m (b + 10 + 7 * t) 3))))).1) (m := (x_goOnWorking m b t ((Int32.ofNat (mv m (b + 12 + 7 * t) (mv m (b + 10 + 7 * t) 3))))).2) (by omega) hb (work_ok hc ht) ht
theorem xc_takeStep6 {σ : Nat → Nat × (Nat → Int32)} {yy : (Nat → Nat → Int64) × Bool × Nat × Nat} {m : Nat → Nat → Int32} {b : Nat} {t : Nat} (hb : BB b) (hc : CG m b) (ht : t < 4) (hA : m (b + 10 + 7 * t) 3 = Int32.ofNat (mv m (b + 10 + 7 * t) 3)) (hA24 : mv m (b + 10 + 7 * t) 3 < 24) (hN : m (b + 12 + 7 * t) (mv m (b + 10 + 7 * t) 3) = Int32.ofNat (mv m (b + 12 + 7 * t) (mv m (b + 10 + 7 * t) 3))) (hK : m (b + 11 + 7 * t) (mv m (b + 10 + 7 * t) 3) = Int32.ofNat 6) : zF σ 4 611 [.ref b, .int (Int32.ofNat t)] (zS1, m, yy) (.inl (some (.int (x_takeStep6 m b t).1))) (zS1, ((x_takeStep6 m b t).2), yy) := by
  intro d hd
  obtain ⟨d, rfl⟩ : ∃ k, d = k + 1 := ⟨d - 1, by omega⟩
  exact xp_takeStep6 hd hb hc ht hA hA24 hN hK
noncomputable def x_takeStep7 (m : Nat → Nat → Int32) (b : Nat) (t : Nat) : Int32 × (Nat → Nat → Int32) := (x_stepE ((x_putOut m b t).2) b t ((x_putOut m b t).1))
theorem xp_takeStep7 {σ : Nat → Nat × (Nat → Int32)} {yy : (Nat → Nat → Int64) × Bool × Nat × Nat} {m : Nat → Nat → Int32} {b : Nat} {t : Nat} {d : Nat} (hd : 4 ≤ d + 1) (hb : BB b) (hc : CG m b) (ht : t < 4) (hA : m (b + 10 + 7 * t) 3 = Int32.ofNat (mv m (b + 10 + 7 * t) 3)) (hA24 : mv m (b + 10 + 7 * t) 3 < 24) (hN : m (b + 12 + 7 * t) (mv m (b + 10 + 7 * t) 3) = Int32.ofNat (mv m (b + 12 + 7 * t) (mv m (b + 10 + 7 * t) 3))) (hK : m (b + 11 + 7 * t) (mv m (b + 10 + 7 * t) 3) = Int32.ofNat 7) : zEv σ (d + 1) 611 0 [some (.ref b), some (.int (Int32.ofNat t)), none, none, none] [] (zS1, m, yy) (.inl (some (.int (x_takeStep7 m b t).1))) (zS1, ((x_takeStep7 m b t).2), yy) := by
  refine zeP rfl rfl ?_
  refine zeP rfl rfl ?_
  refine zeCV rfl rfl rfl rfl (shM hb) rfl (xc_strandAt (m := m) (b := b) (t := t) hb ht) (by omega) ?_
  dsimp only [Option.toList, List.cons_append, List.nil_append]
  refine zeP rfl rfl ?_
  refine zeP rfl rfl ?_
  refine zeP rfl rfl ?_
  refine zeGI rfl rfl (shS hb (by omega)) rfl rfl ?_
  rw [hA]
  refine zeCV rfl rfl rfl rfl (shS hb (by omega)) rfl (xc_numberAt (m := m) (b := b) (t := t) (p := (mv m (b + 10 + 7 * t) 3)) hb ht hA24) (by omega) ?_
  dsimp only [Option.toList, List.cons_append, List.nil_append]
  rw [show x_numberAt m b t (mv m (b + 10 + 7 * t) 3) = Int32.ofNat (mv m (b + 12 + 7 * t) (mv m (b + 10 + 7 * t) 3)) from hN]
  refine zeP rfl rfl ?_
  refine zeKn (c := 1) rfl rfl rfl ?_
  refine zeP rfl rfl ?_
  refine zeP rfl rfl ?_
  refine zeP rfl rfl ?_
  refine zeGI rfl rfl (shS hb (by omega)) rfl rfl ?_
  rw [hA]
  refine zeCV rfl rfl rfl rfl (shS hb (by omega)) rfl (xc_kindAt (m := m) (b := b) (t := t) (p := (mv m (b + 10 + 7 * t) 3)) hb ht hA24) (by omega) ?_
  dsimp only [Option.toList, List.cons_append, List.nil_append]
  rw [show x_kindAt m b t (mv m (b + 10 + 7 * t) 3) = Int32.ofNat 7 from hK]
  refine zeP rfl rfl ?_
  refine zeP rfl rfl ?_
  refine zeP rfl rfl ?_
  refine zeP rfl rfl ?_
  refine zeCV rfl rfl rfl rfl (shM hb) rfl (xc_putOut (m := m) (b := b) (t := t) hb hc ht) (by omega) ?_
  dsimp only [Option.toList, List.cons_append, List.nil_append]
  refine zeP rfl rfl ?_
  simp only [x_takeStep7, cond_true, cond_false]
  exact xp_stepE (b := b) (t := t) (x3 := some (.int (Int32.ofNat (mv m (b + 12 + 7 * t) (mv m (b + 10 + 7 * t) 3))))) (r := (x_putOut m b t).1) (m := (x_putOut m b t).2) (by omega) hb (hc.putOut ht) ht
theorem xc_takeStep7 {σ : Nat → Nat × (Nat → Int32)} {yy : (Nat → Nat → Int64) × Bool × Nat × Nat} {m : Nat → Nat → Int32} {b : Nat} {t : Nat} (hb : BB b) (hc : CG m b) (ht : t < 4) (hA : m (b + 10 + 7 * t) 3 = Int32.ofNat (mv m (b + 10 + 7 * t) 3)) (hA24 : mv m (b + 10 + 7 * t) 3 < 24) (hN : m (b + 12 + 7 * t) (mv m (b + 10 + 7 * t) 3) = Int32.ofNat (mv m (b + 12 + 7 * t) (mv m (b + 10 + 7 * t) 3))) (hK : m (b + 11 + 7 * t) (mv m (b + 10 + 7 * t) 3) = Int32.ofNat 7) : zF σ 4 611 [.ref b, .int (Int32.ofNat t)] (zS1, m, yy) (.inl (some (.int (x_takeStep7 m b t).1))) (zS1, ((x_takeStep7 m b t).2), yy) := by
  intro d hd
  obtain ⟨d, rfl⟩ : ∃ k, d = k + 1 := ⟨d - 1, by omega⟩
  exact xp_takeStep7 hd hb hc ht hA hA24 hN hK
end
section
noncomputable def ltc (m : Nat → Nat → Int32) (b : Nat) : Nat := (m b 8 + Int32.ofNat 1).toNatClampNeg
noncomputable def LTC (m : Nat → Nat → Int32) (b : Nat) : Prop := m b 8 + Int32.ofNat 1 = Int32.ofNat (ltc m b) ∧ ltc m b ≤ 4
theorem nxc_eq {m : Nat → Nat → Int32} {b k N : Nat} (h : LTC m b) (hk : 1 ≤ k) (hk4 : k ≤ 4) (hN : N ≤ 4) : (m b 8 + Int32.ofNat k) - (m b 8 + Int32.ofNat k) / Int32.ofNat N * Int32.ofNat N = Int32.ofNat ((ltc m b + (k - 1)) % N) := by
  have e : m b 8 + Int32.ofNat k = Int32.ofNat (ltc m b + (k - 1)) := by
    have e1 : k = 1 + (k - 1) := by omega
    have e2 : Int32.ofNat k = Int32.ofNat 1 + Int32.ofNat (k - 1) := by rw [← Int32.ofNat_add, ← e1]
    rw [e2, ← Int32.add_assoc, h.1, ← Int32.ofNat_add]
  have := h.2
  rw [e, zremN (by omega) (by omega)]
noncomputable def xl_doneBits (m : Nat → Nat → Int32) (b : Nat) : Nat → Int32 → Nat → Int32
  | 0, s, k => s
  | n + 1, s, k => (bif zc1 .eq (x_sDone m b k) then (xl_doneBits m b n ((s ||| (Int32.ofNat 0))) ((k + 1))) else (xl_doneBits m b n ((s ||| ((Int32.ofNat 1) <<< ((Int32.ofNat k) &&& 31)))) ((k + 1))))
theorem xw_doneBits {σ : Nat → Nat × (Nat → Int32)} {yy : (Nat → Nat → Int64) × Bool × Nat × Nat} {m : Nat → Nat → Int32} {b : Nat} {d : Nat} (hd : 2 ≤ d + 1) (hb : BB b) (hc : CG m b) (hc4 : mv m b 5 ≤ 4) : ∀ (n : Nat) (s : Int32) (k : Nat), k + n = mv m b 5 → zEv σ (d + 1) 627 4 [some (.ref b), some (.int s), some (.int (Int32.ofNat k))] [] (zS1, m, yy) (.inl (some (.int (xl_doneBits m b n s k)))) (zS1, m, yy) := by
  intro n
  induction n with
  | zero =>
    intro s k hk
    refine zeP rfl rfl ?_
    refine zeP rfl rfl ?_
    refine zeGI rfl rfl (shM hb) rfl rfl ?_
    rw [hc.c]
    refine zeT2 rfl rfl (zcge (by omega) (by omega) (by omega)) ?_
    refine zeP rfl rfl ?_
    exact zeRe rfl rfl rfl rfl (by rfl) (by rfl)
  | succ n ih =>
    intro s k hk
    refine zeP rfl rfl ?_
    refine zeP rfl rfl ?_
    refine zeGI rfl rfl (shM hb) rfl rfl ?_
    rw [hc.c]
    refine zeF2 rfl rfl (zcge_f (by omega) (by omega) (by omega)) ?_
    refine zeP rfl rfl ?_
    refine zeP rfl rfl ?_
    refine zeP rfl rfl ?_
    refine zeCV rfl rfl rfl rfl (shM hb) rfl (xc_strandAt (m := m) (b := b) (t := k) hb (by omega)) (by omega) ?_
    dsimp only [Option.toList, List.cons_append, List.nil_append]
    refine zeCV rfl rfl rfl rfl (shS hb (by omega)) rfl (xc_sDone (m := m) (b := b) (t := k) hb (by omega)) (by omega) ?_
    dsimp only [Option.toList, List.cons_append, List.nil_append]
    refine zeB1 rfl rfl (fun h1 => ?_) (fun h1 => ?_)
    · refine zeKn (c := 0) rfl rfl rfl ?_
      refine zeP rfl rfl ?_
      refine zeP rfl rfl ?_
      refine zeInc rfl rfl ?_
      refine zeP rfl rfl ?_
      simp only [xl_doneBits, h1, cond_true, cond_false]
      exact ih ((s ||| (Int32.ofNat 0))) ((k + 1))   (by omega) 
    · refine zeKn (c := 1) rfl rfl rfl ?_
      refine zeP rfl rfl ?_
      refine zeP rfl rfl ?_
      refine zeP rfl rfl ?_
      refine zeP rfl rfl ?_
      refine zeP rfl rfl ?_
      refine zeInc rfl rfl ?_
      refine zeP rfl rfl ?_
      simp only [xl_doneBits, h1, cond_true, cond_false]
      exact ih ((s ||| ((Int32.ofNat 1) <<< ((Int32.ofNat k) &&& 31)))) ((k + 1))   (by omega) 
noncomputable def x_doneBits (m : Nat → Nat → Int32) (b : Nat) : Int32 := (xl_doneBits m b ((mv m b 5)) ((Int32.ofNat 0)) 0)
theorem xp_doneBits {σ : Nat → Nat × (Nat → Int32)} {yy : (Nat → Nat → Int64) × Bool × Nat × Nat} {m : Nat → Nat → Int32} {b : Nat} {d : Nat} (hd : 2 ≤ d + 1) (hb : BB b) (hc : CG m b) : zEv σ (d + 1) 627 0 [some (.ref b), none, none] [] (zS1, m, yy) (.inl (some (.int (x_doneBits m b)))) (zS1, m, yy) := by
  refine zeKn (c := 0) rfl rfl rfl ?_
  refine zeP rfl rfl ?_
  refine zeKn (c := 0) rfl rfl rfl ?_
  refine zeP rfl rfl ?_
  simp only [x_doneBits, cond_true, cond_false]
  exact xw_doneBits (b := b) (m := m) (by omega) hb hc hc.c4 ((mv m b 5)) ((Int32.ofNat 0)) (0)   (by omega) 
theorem xc_doneBits {σ : Nat → Nat × (Nat → Int32)} {yy : (Nat → Nat → Int64) × Bool × Nat × Nat} {m : Nat → Nat → Int32} {b : Nat} (hb : BB b) (hc : CG m b) : zF σ 2 627 [.ref b] (zS1, m, yy) (.inl (some (.int (x_doneBits m b)))) (zS1, m, yy) := by
  intro d hd
  obtain ⟨d, rfl⟩ : ∃ k, d = k + 1 := ⟨d - 1, by omega⟩
  exact xp_doneBits hd hb hc
noncomputable def xl_guessingBits (m : Nat → Nat → Int32) (b : Nat) : Nat → Int32 → Nat → Int32
  | 0, s, k => s
  | n + 1, s, k => (bif zc1 .eq (x_isGuessing m b k) then (xl_guessingBits m b n ((s ||| (Int32.ofNat 0))) ((k + 1))) else (xl_guessingBits m b n ((s ||| ((Int32.ofNat 1) <<< ((Int32.ofNat k) &&& 31)))) ((k + 1))))
theorem xw_guessingBits {σ : Nat → Nat × (Nat → Int32)} {yy : (Nat → Nat → Int64) × Bool × Nat × Nat} {m : Nat → Nat → Int32} {b : Nat} {d : Nat} (hd : 3 ≤ d + 1) (hb : BB b) (hc : CG m b) (hc4 : mv m b 5 ≤ 4) : ∀ (n : Nat) (s : Int32) (k : Nat), k + n = mv m b 5 → zEv σ (d + 1) 628 4 [some (.ref b), some (.int s), some (.int (Int32.ofNat k))] [] (zS1, m, yy) (.inl (some (.int (xl_guessingBits m b n s k)))) (zS1, m, yy) := by
  intro n
  induction n with
  | zero =>
    intro s k hk
    refine zeP rfl rfl ?_
    refine zeP rfl rfl ?_
    refine zeGI rfl rfl (shM hb) rfl rfl ?_
    rw [hc.c]
    refine zeT2 rfl rfl (zcge (by omega) (by omega) (by omega)) ?_
    refine zeP rfl rfl ?_
    exact zeRe rfl rfl rfl rfl (by rfl) (by rfl)
  | succ n ih =>
    intro s k hk
    refine zeP rfl rfl ?_
    refine zeP rfl rfl ?_
    refine zeGI rfl rfl (shM hb) rfl rfl ?_
    rw [hc.c]
    refine zeF2 rfl rfl (zcge_f (by omega) (by omega) (by omega)) ?_
    refine zeP rfl rfl ?_
    refine zeP rfl rfl ?_
    refine zeP rfl rfl ?_
    refine zeCV rfl rfl rfl rfl (shM hb) rfl (xc_isGuessing (m := m) (b := b) (t := k) hb (by omega)) (by omega) ?_
    dsimp only [Option.toList, List.cons_append, List.nil_append]
    refine zeB1 rfl rfl (fun h1 => ?_) (fun h1 => ?_)
    · refine zeKn (c := 0) rfl rfl rfl ?_
      refine zeP rfl rfl ?_
      refine zeP rfl rfl ?_
      refine zeInc rfl rfl ?_
      refine zeP rfl rfl ?_
      simp only [xl_guessingBits, h1, cond_true, cond_false]
      exact ih ((s ||| (Int32.ofNat 0))) ((k + 1))   (by omega) 
    · refine zeKn (c := 1) rfl rfl rfl ?_
      refine zeP rfl rfl ?_
      refine zeP rfl rfl ?_
      refine zeP rfl rfl ?_
      refine zeP rfl rfl ?_
      refine zeP rfl rfl ?_
      refine zeInc rfl rfl ?_
      refine zeP rfl rfl ?_
      simp only [xl_guessingBits, h1, cond_true, cond_false]
      exact ih ((s ||| ((Int32.ofNat 1) <<< ((Int32.ofNat k) &&& 31)))) ((k + 1))   (by omega) 
noncomputable def x_guessingBits (m : Nat → Nat → Int32) (b : Nat) : Int32 := (xl_guessingBits m b ((mv m b 5)) ((Int32.ofNat 0)) 0)
theorem xp_guessingBits {σ : Nat → Nat × (Nat → Int32)} {yy : (Nat → Nat → Int64) × Bool × Nat × Nat} {m : Nat → Nat → Int32} {b : Nat} {d : Nat} (hd : 3 ≤ d + 1) (hb : BB b) (hc : CG m b) : zEv σ (d + 1) 628 0 [some (.ref b), none, none] [] (zS1, m, yy) (.inl (some (.int (x_guessingBits m b)))) (zS1, m, yy) := by
  refine zeKn (c := 0) rfl rfl rfl ?_
  refine zeP rfl rfl ?_
  refine zeKn (c := 0) rfl rfl rfl ?_
  refine zeP rfl rfl ?_
  simp only [x_guessingBits, cond_true, cond_false]
  exact xw_guessingBits (b := b) (m := m) (by omega) hb hc hc.c4 ((mv m b 5)) ((Int32.ofNat 0)) (0)   (by omega) 
theorem xc_guessingBits {σ : Nat → Nat × (Nat → Int32)} {yy : (Nat → Nat → Int64) × Bool × Nat × Nat} {m : Nat → Nat → Int32} {b : Nat} (hb : BB b) (hc : CG m b) : zF σ 3 628 [.ref b] (zS1, m, yy) (.inl (some (.int (x_guessingBits m b)))) (zS1, m, yy) := by
  intro d hd
  obtain ⟨d, rfl⟩ : ∃ k, d = k + 1 := ⟨d - 1, by omega⟩
  exact xp_guessingBits hd hb hc
noncomputable def xl_allKept (m : Nat → Nat → Int32) (b : Nat) : Nat → Int32 → Nat → Int32
  | 0, s, k => s
  | n + 1, s, k => (xl_allKept m b n ((s + (m ((b + 10 + 7 * k)) 6))) ((k + 1)))
theorem xw_allKept {σ : Nat → Nat × (Nat → Int32)} {yy : (Nat → Nat → Int64) × Bool × Nat × Nat} {m : Nat → Nat → Int32} {b : Nat} {d : Nat} (hd : 2 ≤ d + 1) (hb : BB b) (hc : CG m b) (hc4 : mv m b 5 ≤ 4) : ∀ (n : Nat) (s : Int32) (k : Nat), k + n = mv m b 5 → zEv σ (d + 1) 630 4 [some (.ref b), some (.int s), some (.int (Int32.ofNat k))] [] (zS1, m, yy) (.inl (some (.int (xl_allKept m b n s k)))) (zS1, m, yy) := by
  intro n
  induction n with
  | zero =>
    intro s k hk
    refine zeP rfl rfl ?_
    refine zeP rfl rfl ?_
    refine zeGI rfl rfl (shM hb) rfl rfl ?_
    rw [hc.c]
    refine zeT2 rfl rfl (zcge (by omega) (by omega) (by omega)) ?_
    refine zeP rfl rfl ?_
    exact zeRe rfl rfl rfl rfl (by rfl) (by rfl)
  | succ n ih =>
    intro s k hk
    refine zeP rfl rfl ?_
    refine zeP rfl rfl ?_
    refine zeGI rfl rfl (shM hb) rfl rfl ?_
    rw [hc.c]
    refine zeF2 rfl rfl (zcge_f (by omega) (by omega) (by omega)) ?_
    refine zeP rfl rfl ?_
    refine zeP rfl rfl ?_
    refine zeP rfl rfl ?_
    refine zeCV rfl rfl rfl rfl (shM hb) rfl (xc_strandAt (m := m) (b := b) (t := k) hb (by omega)) (by omega) ?_
    dsimp only [Option.toList, List.cons_append, List.nil_append]
    refine zeGI rfl rfl (shS hb (by omega)) rfl rfl ?_
    refine zeP rfl rfl ?_
    refine zeP rfl rfl ?_
    refine zeInc rfl rfl ?_
    refine zeP rfl rfl ?_
    simp only [xl_allKept, cond_true, cond_false]
    exact ih ((s + (m ((b + 10 + 7 * k)) 6))) ((k + 1))   (by omega) 
noncomputable def x_allKept (m : Nat → Nat → Int32) (b : Nat) : Int32 := (xl_allKept m b ((mv m b 5)) ((Int32.ofNat 0)) 0)
theorem xp_allKept {σ : Nat → Nat × (Nat → Int32)} {yy : (Nat → Nat → Int64) × Bool × Nat × Nat} {m : Nat → Nat → Int32} {b : Nat} {d : Nat} (hd : 2 ≤ d + 1) (hb : BB b) (hc : CG m b) : zEv σ (d + 1) 630 0 [some (.ref b), none, none] [] (zS1, m, yy) (.inl (some (.int (x_allKept m b)))) (zS1, m, yy) := by
  refine zeKn (c := 0) rfl rfl rfl ?_
  refine zeP rfl rfl ?_
  refine zeKn (c := 0) rfl rfl rfl ?_
  refine zeP rfl rfl ?_
  simp only [x_allKept, cond_true, cond_false]
  exact xw_allKept (b := b) (m := m) (by omega) hb hc hc.c4 ((mv m b 5)) ((Int32.ofNat 0)) (0)   (by omega) 
theorem xc_allKept {σ : Nat → Nat × (Nat → Int32)} {yy : (Nat → Nat → Int64) × Bool × Nat × Nat} {m : Nat → Nat → Int32} {b : Nat} (hb : BB b) (hc : CG m b) : zF σ 2 630 [.ref b] (zS1, m, yy) (.inl (some (.int (x_allKept m b)))) (zS1, m, yy) := by
  intro d hd
  obtain ⟨d, rfl⟩ : ∃ k, d = k + 1 := ⟨d - 1, by omega⟩
  exact xp_allKept hd hb hc
noncomputable def xl_leavingOut (m : Nat → Nat → Int32) (b : Nat) (l : Int32) : Nat → Nat → Nat → Int32
  | 0, c, k => (Int32.ofNat c)
  | n + 1, c, k => (bif zc1 .eq (x_leavesOut m b k l) then (xl_leavingOut m b l n c ((k + 1))) else (xl_leavingOut m b l n ((c + 1)) ((k + 1))))
theorem xw_leavingOut {σ : Nat → Nat × (Nat → Int32)} {yy : (Nat → Nat → Int64) × Bool × Nat × Nat} {m : Nat → Nat → Int32} {b : Nat} {l : Int32} {d : Nat} (hd : 2 ≤ d + 1) (hb : BB b) (hc : CG m b) (hc4 : mv m b 5 ≤ 4) : ∀ (n : Nat) (c : Nat) (k : Nat), k + n = mv m b 5 → zEv σ (d + 1) 626 4 [some (.ref b), some (.int l), some (.int (Int32.ofNat c)), some (.int (Int32.ofNat k))] [] (zS1, m, yy) (.inl (some (.int (xl_leavingOut m b l n c k)))) (zS1, m, yy) := by
  intro n
  induction n with
  | zero =>
    intro c k hk
    refine zeP rfl rfl ?_
    refine zeP rfl rfl ?_
    refine zeGI rfl rfl (shM hb) rfl rfl ?_
    rw [hc.c]
    refine zeT2 rfl rfl (zcge (by omega) (by omega) (by omega)) ?_
    refine zeP rfl rfl ?_
    exact zeRe rfl rfl rfl rfl (by rfl) (by rfl)
  | succ n ih =>
    intro c k hk
    refine zeP rfl rfl ?_
    refine zeP rfl rfl ?_
    refine zeGI rfl rfl (shM hb) rfl rfl ?_
    rw [hc.c]
    refine zeF2 rfl rfl (zcge_f (by omega) (by omega) (by omega)) ?_
    refine zeP rfl rfl ?_
    refine zeP rfl rfl ?_
    refine zeCV rfl rfl rfl rfl (shM hb) rfl (xc_strandAt (m := m) (b := b) (t := k) hb (by omega)) (by omega) ?_
    dsimp only [Option.toList, List.cons_append, List.nil_append]
    refine zeGR rfl rfl (shS hb (by omega)) rfl rfl ?_
    refine zeP rfl rfl ?_
    refine zeCV rfl rfl rfl rfl (shG hb (by omega)) rfl (xc_leavesOut (m := m) (b := b) (t := k) (l := l) hb (by omega) (hc.q (by omega)) (hc.q4 (by omega))) (by omega) ?_
    dsimp only [Option.toList, List.cons_append, List.nil_append]
    refine zeB1 rfl rfl (fun h1 => ?_) (fun h1 => ?_)
    · refine zeInc rfl rfl ?_
      refine zeP rfl rfl ?_
      simp only [xl_leavingOut, h1, cond_true, cond_false]
      exact ih (c) ((k + 1))   (by omega) 
    · refine zeInc rfl rfl ?_
      refine zeInc rfl rfl ?_
      refine zeP rfl rfl ?_
      simp only [xl_leavingOut, h1, cond_true, cond_false]
      exact ih ((c + 1)) ((k + 1))   (by omega) 
noncomputable def x_leavingOut (m : Nat → Nat → Int32) (b : Nat) (l : Int32) : Int32 := (xl_leavingOut m b l ((mv m b 5)) 0 0)
theorem xp_leavingOut {σ : Nat → Nat × (Nat → Int32)} {yy : (Nat → Nat → Int64) × Bool × Nat × Nat} {m : Nat → Nat → Int32} {b : Nat} {l : Int32} {d : Nat} (hd : 2 ≤ d + 1) (hb : BB b) (hc : CG m b) : zEv σ (d + 1) 626 0 [some (.ref b), some (.int l), none, none] [] (zS1, m, yy) (.inl (some (.int (x_leavingOut m b l)))) (zS1, m, yy) := by
  refine zeKn (c := 0) rfl rfl rfl ?_
  refine zeP rfl rfl ?_
  refine zeKn (c := 0) rfl rfl rfl ?_
  refine zeP rfl rfl ?_
  simp only [x_leavingOut, cond_true, cond_false]
  exact xw_leavingOut (b := b) (l := l) (m := m) (by omega) hb hc hc.c4 ((mv m b 5)) (0) (0)   (by omega) 
theorem xc_leavingOut {σ : Nat → Nat × (Nat → Int32)} {yy : (Nat → Nat → Int64) × Bool × Nat × Nat} {m : Nat → Nat → Int32} {b : Nat} {l : Int32} (hb : BB b) (hc : CG m b) : zF σ 2 626 [.ref b, .int l] (zS1, m, yy) (.inl (some (.int (x_leavingOut m b l)))) (zS1, m, yy) := by
  intro d hd
  obtain ⟨d, rfl⟩ : ∃ k, d = k + 1 := ⟨d - 1, by omega⟩
  exact xp_leavingOut hd hb hc
noncomputable def xl_lockBits (m : Nat → Nat → Int32) (b : Nat) : Nat → Int32 → Nat → Int32
  | 0, s, k => s
  | n + 1, s, k => (bif zc1 .eq (m ((b + 1)) ((mv m (b + 5 + k) 0))) then (xl_lockBits m b n ((s ||| (Int32.ofNat 0))) ((k + 1))) else (xl_lockBits m b n ((s ||| ((Int32.ofNat 1) <<< ((Int32.ofNat k) &&& 31)))) ((k + 1))))
theorem xw_lockBits {σ : Nat → Nat × (Nat → Int32)} {yy : (Nat → Nat → Int64) × Bool × Nat × Nat} {m : Nat → Nat → Int32} {b : Nat} {d : Nat} (hd : 2 ≤ d + 1) (hb : BB b) (hc : CG m b) : ∀ (n : Nat) (s : Int32) (k : Nat), k + n = 4 → zEv σ (d + 1) 629 4 [some (.ref b), some (.int s), some (.int (Int32.ofNat k))] [] (zS1, m, yy) (.inl (some (.int (xl_lockBits m b n s k)))) (zS1, m, yy) := by
  intro n
  induction n with
  | zero =>
    intro s k hk
    refine zeP rfl rfl ?_
    refine zeKn (c := 4) rfl rfl rfl ?_
    refine zeT2 rfl rfl (zcge (by omega) (by omega) (by omega)) ?_
    refine zeP rfl rfl ?_
    exact zeRe rfl rfl rfl rfl (by rfl) (by rfl)
  | succ n ih =>
    intro s k hk
    refine zeP rfl rfl ?_
    refine zeKn (c := 4) rfl rfl rfl ?_
    refine zeF2 rfl rfl (zcge_f (by omega) (by omega) (by omega)) ?_
    refine zeP rfl rfl ?_
    refine zeP rfl rfl ?_
    refine zeGR rfl rfl (shM hb) rfl rfl ?_
    refine zeP rfl rfl ?_
    refine zeP rfl rfl ?_
    refine zeCV rfl rfl rfl rfl (shM hb) rfl (xc_lockAt (m := m) (b := b) (l := k) hb (by omega)) (by omega) ?_
    dsimp only [Option.toList, List.cons_append, List.nil_append]
    refine zeGI rfl rfl (shL hb (by omega)) rfl rfl ?_
    rw [(hc.w (l := k) (by omega)).1]
    refine zeKn (c := 31) rfl rfl rfl ?_
    refine zeON (c := (mv m (b + 5 + k) 0)) rfl rfl (zand31 _ (hc.w32 (l := k) (by omega))) ?_
    refine zeAL (k := (mv m (b + 5 + k) 0)) rfl (bb1000 hb (by omega)) (shW hb) rfl (hc.w32 (l := k) (by omega)) ?_
    refine zeB1 rfl rfl (fun h1 => ?_) (fun h1 => ?_)
    · refine zeKn (c := 0) rfl rfl rfl ?_
      refine zeP rfl rfl ?_
      refine zeP rfl rfl ?_
      refine zeInc rfl rfl ?_
      refine zeP rfl rfl ?_
      simp only [xl_lockBits, h1, cond_true, cond_false]
      exact ih ((s ||| (Int32.ofNat 0))) ((k + 1))   (by omega) 
    · refine zeKn (c := 1) rfl rfl rfl ?_
      refine zeP rfl rfl ?_
      refine zeP rfl rfl ?_
      refine zeP rfl rfl ?_
      refine zeP rfl rfl ?_
      refine zeP rfl rfl ?_
      refine zeInc rfl rfl ?_
      refine zeP rfl rfl ?_
      simp only [xl_lockBits, h1, cond_true, cond_false]
      exact ih ((s ||| ((Int32.ofNat 1) <<< ((Int32.ofNat k) &&& 31)))) ((k + 1))   (by omega) 
noncomputable def x_lockBits (m : Nat → Nat → Int32) (b : Nat) : Int32 := (xl_lockBits m b 4 ((Int32.ofNat 0)) 0)
theorem xp_lockBits {σ : Nat → Nat × (Nat → Int32)} {yy : (Nat → Nat → Int64) × Bool × Nat × Nat} {m : Nat → Nat → Int32} {b : Nat} {d : Nat} (hd : 2 ≤ d + 1) (hb : BB b) (hc : CG m b) : zEv σ (d + 1) 629 0 [some (.ref b), none, none] [] (zS1, m, yy) (.inl (some (.int (x_lockBits m b)))) (zS1, m, yy) := by
  refine zeKn (c := 0) rfl rfl rfl ?_
  refine zeP rfl rfl ?_
  refine zeKn (c := 0) rfl rfl rfl ?_
  refine zeP rfl rfl ?_
  simp only [x_lockBits, cond_true, cond_false]
  exact xw_lockBits (b := b) (m := m) (by omega) hb hc 4 ((Int32.ofNat 0)) (0)   (by omega) 
theorem xc_lockBits {σ : Nat → Nat × (Nat → Int32)} {yy : (Nat → Nat → Int64) × Bool × Nat × Nat} {m : Nat → Nat → Int32} {b : Nat} (hb : BB b) (hc : CG m b) : zF σ 2 629 [.ref b] (zS1, m, yy) (.inl (some (.int (x_lockBits m b)))) (zS1, m, yy) := by
  intro d hd
  obtain ⟨d, rfl⟩ : ∃ k, d = k + 1 := ⟨d - 1, by omega⟩
  exact xp_lockBits hd hb hc
noncomputable def xl_allFalls (m : Nat → Nat → Int32) (b : Nat) (t : Nat) : Nat → Int32 → Nat → Int32
  | 0, s, k => s
  | n + 1, s, k => (xl_allFalls m b t n ((s + (m ((b + 13 + 7 * t)) k))) ((k + 1)))
theorem xw_allFalls {σ : Nat → Nat × (Nat → Int32)} {yy : (Nat → Nat → Int64) × Bool × Nat × Nat} {m : Nat → Nat → Int32} {b : Nat} {t : Nat} {d : Nat} (hd : 1 ≤ d + 1) (hb : BB b) (ht : t < 4) : ∀ (n : Nat) (s : Int32) (k : Nat), k + n = 5 → zEv σ (d + 1) 1207 4 [some (.ref (b + 10 + 7 * t)), some (.int s), some (.int (Int32.ofNat k))] [] (zS1, m, yy) (.inl (some (.int (xl_allFalls m b t n s k)))) (zS1, m, yy) := by
  intro n
  induction n with
  | zero =>
    intro s k hk
    refine zeP rfl rfl ?_
    refine zeKn (c := 5) rfl rfl rfl ?_
    refine zeT2 rfl rfl (zcge (by omega) (by omega) (by omega)) ?_
    refine zeP rfl rfl ?_
    exact zeRe rfl rfl rfl rfl (by rfl) (by rfl)
  | succ n ih =>
    intro s k hk
    refine zeP rfl rfl ?_
    refine zeKn (c := 5) rfl rfl rfl ?_
    refine zeF2 rfl rfl (zcge_f (by omega) (by omega) (by omega)) ?_
    refine zeP rfl rfl ?_
    refine zeP rfl rfl ?_
    refine zeGR rfl rfl (shS hb (by omega)) rfl rfl ?_
    refine zeP rfl rfl ?_
    refine zeAL (k := k) rfl (bbl hb (by omega) (by omega)) (shF hb (by omega)) rfl (by omega) ?_
    refine zeP rfl rfl ?_
    refine zeP rfl rfl ?_
    refine zeInc rfl rfl ?_
    refine zeP rfl rfl ?_
    simp only [xl_allFalls, cond_true, cond_false]
    exact ih ((s + (m ((b + 13 + 7 * t)) k))) ((k + 1))   (by omega) 
noncomputable def x_allFalls (m : Nat → Nat → Int32) (b : Nat) (t : Nat) : Int32 := (xl_allFalls m b t 5 ((Int32.ofNat 0)) 0)
theorem xp_allFalls {σ : Nat → Nat × (Nat → Int32)} {yy : (Nat → Nat → Int64) × Bool × Nat × Nat} {m : Nat → Nat → Int32} {b : Nat} {t : Nat} {d : Nat} (hd : 1 ≤ d + 1) (hb : BB b) (ht : t < 4) : zEv σ (d + 1) 1207 0 [some (.ref (b + 10 + 7 * t)), none, none] [] (zS1, m, yy) (.inl (some (.int (x_allFalls m b t)))) (zS1, m, yy) := by
  refine zeKn (c := 0) rfl rfl rfl ?_
  refine zeP rfl rfl ?_
  refine zeKn (c := 0) rfl rfl rfl ?_
  refine zeP rfl rfl ?_
  simp only [x_allFalls, cond_true, cond_false]
  exact xw_allFalls (b := b) (t := t) (m := m) (by omega) (by first | assumption | omega) (by first | assumption | omega) 5 ((Int32.ofNat 0)) (0)   (by omega) 
theorem xc_allFalls {σ : Nat → Nat × (Nat → Int32)} {yy : (Nat → Nat → Int64) × Bool × Nat × Nat} {m : Nat → Nat → Int32} {b : Nat} {t : Nat} (hb : BB b) (ht : t < 4) : zF σ 1 1207 [.ref (b + 10 + 7 * t)] (zS1, m, yy) (.inl (some (.int (x_allFalls m b t)))) (zS1, m, yy) := by
  intro d hd
  obtain ⟨d, rfl⟩ : ∃ k, d = k + 1 := ⟨d - 1, by omega⟩
  exact xp_allFalls hd hb ht
noncomputable def xl_nextByTurn (m : Nat → Nat → Int32) (b : Nat) : Nat → Nat → Int32
  | 0, k => (-1)
  | n + 1, k => (bif zc1 .ne (x_sDone m b ((((ltc m b + (k - 1)) % mv m b 5)))) then (xl_nextByTurn m b n ((k + 1))) else (Int32.ofNat ((ltc m b + (k - 1)) % mv m b 5)))
theorem xw_nextByTurn {σ : Nat → Nat × (Nat → Int32)} {yy : (Nat → Nat → Int64) × Bool × Nat × Nat} {m : Nat → Nat → Int32} {b : Nat} {d : Nat} (hd : 2 ≤ d + 1) (hb : BB b) (hc : CG m b) (hc4 : mv m b 5 ≤ 4) (hL : LTC m b) : ∀ (n : Nat) (k : Nat) (x2 : Option Value), k + n = mv m b 5 + 1 → 1 ≤ k → zEv σ (d + 1) 608 2 [some (.ref b), some (.int (Int32.ofNat k)), x2] [] (zS1, m, yy) (.inl (some (.int (xl_nextByTurn m b n k)))) (zS1, m, yy) := by
  intro n
  induction n with
  | zero =>
    intro k x2 hk hk1
    refine zeP rfl rfl ?_
    refine zeP rfl rfl ?_
    refine zeGI rfl rfl (shM hb) rfl rfl ?_
    rw [hc.c]
    refine zeT2 rfl rfl (zcgt (by omega) (by omega) (by omega)) ?_
    refine zeK (v := -1) rfl rfl rfl ?_
    exact zeRe rfl rfl rfl rfl (by rfl) (by rfl)
  | succ n ih =>
    intro k x2 hk hk1
    refine zeP rfl rfl ?_
    refine zeP rfl rfl ?_
    refine zeGI rfl rfl (shM hb) rfl rfl ?_
    rw [hc.c]
    refine zeF2 rfl rfl (zcgt_f (by omega) (by omega) (by omega)) ?_
    refine zeP rfl rfl ?_
    refine zeGI rfl rfl (shM hb) rfl rfl ?_
    refine zeP rfl rfl ?_
    refine zeP rfl rfl ?_
    refine zeP rfl rfl ?_
    refine zeGI rfl rfl (shM hb) rfl rfl ?_
    rw [hc.c]
    refine zeRem rfl (zon0 (by omega) (by omega)) ?_
    rw [nxc_eq hL hk1 (by omega) hc4]
    refine zeP rfl rfl ?_
    have hmod : ((ltc m b + (k - 1)) % mv m b 5) < 4 := Nat.lt_of_lt_of_le (Nat.mod_lt _ (by omega)) hc4
    refine zeP rfl rfl ?_
    refine zeP rfl rfl ?_
    refine zeCV rfl rfl rfl rfl (shM hb) rfl (xc_strandAt (m := m) (b := b) (t := ((ltc m b + (k - 1)) % mv m b 5)) hb hmod) (by omega) ?_
    dsimp only [Option.toList, List.cons_append, List.nil_append]
    refine zeCV rfl rfl rfl rfl (shS hb (by omega)) rfl (xc_sDone (m := m) (b := b) (t := (((ltc m b + (k - 1)) % mv m b 5))) hb hmod) (by omega) ?_
    dsimp only [Option.toList, List.cons_append, List.nil_append]
    refine zeB1 rfl rfl (fun h1 => ?_) (fun h1 => ?_)
    · refine zeInc rfl rfl ?_
      refine zeP rfl rfl ?_
      simp only [xl_nextByTurn, h1, cond_true, cond_false]
      exact ih ((k + 1)) (some (.int (Int32.ofNat ((ltc m b + (k - 1)) % mv m b 5))))   (by omega) (by first | assumption | omega)
    · refine zeP rfl rfl ?_
      exact zeRe rfl rfl rfl rfl (by simp only [xl_nextByTurn, h1, cond_true, cond_false] <;> rfl) (by simp only [xl_nextByTurn, h1, cond_true, cond_false] <;> rfl)
noncomputable def x_nextByTurn (m : Nat → Nat → Int32) (b : Nat) : Int32 := (xl_nextByTurn m b ((mv m b 5)) 1)
theorem xp_nextByTurn {σ : Nat → Nat × (Nat → Int32)} {yy : (Nat → Nat → Int64) × Bool × Nat × Nat} {m : Nat → Nat → Int32} {b : Nat} {d : Nat} (hd : 2 ≤ d + 1) (hb : BB b) (hc : CG m b) (hL : LTC m b) : zEv σ (d + 1) 608 0 [some (.ref b), none, none] [] (zS1, m, yy) (.inl (some (.int (x_nextByTurn m b)))) (zS1, m, yy) := by
  refine zeKn (c := 1) rfl rfl rfl ?_
  refine zeP rfl rfl ?_
  simp only [x_nextByTurn, cond_true, cond_false]
  exact xw_nextByTurn (b := b) (m := m) (by omega) hb hc hc.c4 hL ((mv m b 5)) (1) (none)   (by omega) (by omega)
theorem xc_nextByTurn {σ : Nat → Nat × (Nat → Int32)} {yy : (Nat → Nat → Int64) × Bool × Nat × Nat} {m : Nat → Nat → Int32} {b : Nat} (hb : BB b) (hc : CG m b) (hL : LTC m b) : zF σ 2 608 [.ref b] (zS1, m, yy) (.inl (some (.int (x_nextByTurn m b)))) (zS1, m, yy) := by
  intro d hd
  obtain ⟨d, rfl⟩ : ∃ k, d = k + 1 := ⟨d - 1, by omega⟩
  exact xp_nextByTurn hd hb hc hL
end
section
theorem ge1_ne {x : Int32} (h : zc2 .ge x (Int32.ofNat 1) = true) : ¬ x = 0 := by
  intro e
  rw [e] at h
  exact absurd h (by decide)
noncomputable def x_draw (m : Nat → Nat → Int32) (b : Nat) (x : Int32) : Int32 × (Nat → Nat → Int32) := (bif zc2 .ge x (Int32.ofNat 1) then ((((((((zm2 m b 9 (((m b 9) * (Int32.ofNat 1103515245)) + (Int32.ofNat 12345)))) b 9)).toUInt32 >>> (((Int32.ofNat 16)).toUInt32 &&& Int32.toUInt32 31)).toInt32 &&& (Int32.ofNat 32767)) - ((((((zm2 m b 9 (((m b 9) * (Int32.ofNat 1103515245)) + (Int32.ofNat 12345)))) b 9)).toUInt32 >>> (((Int32.ofNat 16)).toUInt32 &&& Int32.toUInt32 31)).toInt32 &&& (Int32.ofNat 32767)) / x * x), (zm2 m b 9 (((m b 9) * (Int32.ofNat 1103515245)) + (Int32.ofNat 12345)))) else ((Int32.ofNat 0), (zm2 m b 9 (((m b 9) * (Int32.ofNat 1103515245)) + (Int32.ofNat 12345)))))
theorem xp_draw {σ : Nat → Nat × (Nat → Int32)} {yy : (Nat → Nat → Int64) × Bool × Nat × Nat} {m : Nat → Nat → Int32} {b : Nat} {x : Int32} {d : Nat} (hd : 1 ≤ d + 1) (hb : BB b) : zEv σ (d + 1) 610 0 [some (.ref b), some (.int x)] [] (zS1, m, yy) (.inl (some (.int (x_draw m b x).1))) (zS1, ((x_draw m b x).2), yy) := by
  refine zeP rfl rfl ?_
  refine zeP rfl rfl ?_
  refine zeGI rfl rfl (shM hb) rfl rfl ?_
  refine zeKn (c := 1103515245) rfl rfl rfl ?_
  refine zeP rfl rfl ?_
  refine zeKn (c := 12345) rfl rfl rfl ?_
  refine zeP rfl rfl ?_
  refine zePI rfl rfl (shM hb) rfl ?_
  refine zeP rfl rfl ?_
  refine zeKn (c := 1) rfl rfl rfl ?_
  refine zeB2 rfl rfl (fun h1 => ?_) (fun h1 => ?_)
  · refine zeP rfl rfl ?_
    refine zeGI rfl rfl (shM hb) rfl rfl ?_
    refine zeKn (c := 16) rfl rfl rfl ?_
    refine zeP rfl rfl ?_
    refine zeKn (c := 32767) rfl rfl rfl ?_
    refine zeP rfl rfl ?_
    refine zeP rfl rfl ?_
    refine zeRem rfl (ge1_ne (by assumption)) ?_
    exact zeRe rfl rfl rfl rfl (by simp only [x_draw, h1, cond_true, cond_false] <;> rfl) (by simp only [x_draw, h1, cond_true, cond_false] <;> rfl)
  · refine zeKn (c := 0) rfl rfl rfl ?_
    refine zeP rfl rfl ?_
    exact zeRe rfl rfl rfl rfl (by simp only [x_draw, h1, cond_true, cond_false] <;> rfl) (by simp only [x_draw, h1, cond_true, cond_false] <;> rfl)
theorem xc_draw {σ : Nat → Nat × (Nat → Int32)} {yy : (Nat → Nat → Int64) × Bool × Nat × Nat} {m : Nat → Nat → Int32} {b : Nat} {x : Int32} (hb : BB b) : zF σ 1 610 [.ref b, .int x] (zS1, m, yy) (.inl (some (.int (x_draw m b x).1))) (zS1, ((x_draw m b x).2), yy) := by
  intro d hd
  obtain ⟨d, rfl⟩ : ∃ k, d = k + 1 := ⟨d - 1, by omega⟩
  exact xp_draw hd hb
theorem CG.draw {m : Nat → Nat → Int32} {b : Nat} {x : Int32} (h : CG m b) : CG (x_draw m b x).2 b := by
  unfold x_draw
  exact cndi (fun q : QM => CG q.2 b) (h.put _ (ncM (by omega) (by omega))) (h.put _ (ncM (by omega) (by omega)))
noncomputable def xl_nextByDraw (m : Nat → Nat → Int32) (b : Nat) : Nat → Int32 → Nat → Int32
  | 0, a, k => (-1)
  | n + 1, a, k => (bif zc1 .ne (x_sDone m b k) then (xl_nextByDraw m b n a ((k + 1))) else (bif zc1 .ne a then (xl_nextByDraw m b n ((a + Int32.ofInt (-1))) ((k + 1))) else (Int32.ofNat k)))
theorem xw_nextByDraw {σ : Nat → Nat × (Nat → Int32)} {yy : (Nat → Nat → Int64) × Bool × Nat × Nat} {m : Nat → Nat → Int32} {b : Nat} {d : Nat} (hd : 2 ≤ d + 1) (hb : BB b) (hc : CG m b) (hc4 : mv m b 5 ≤ 4) : ∀ (n : Nat) (x1 : Option Value) (a : Int32) (k : Nat), k + n = mv m b 5 → zEv σ (d + 1) 609 28 [some (.ref b), x1, some (.int a), some (.int (Int32.ofNat k))] [] (zS1, m, yy) (.inl (some (.int (xl_nextByDraw m b n a k)))) (zS1, m, yy) := by
  intro n
  induction n with
  | zero =>
    intro x1 a k hk
    refine zeP rfl rfl ?_
    refine zeP rfl rfl ?_
    refine zeGI rfl rfl (shM hb) rfl rfl ?_
    rw [hc.c]
    refine zeT2 rfl rfl (zcge (by omega) (by omega) (by omega)) ?_
    refine zeK (v := -1) rfl rfl rfl ?_
    exact zeRe rfl rfl rfl rfl (by rfl) (by rfl)
  | succ n ih =>
    intro x1 a k hk
    refine zeP rfl rfl ?_
    refine zeP rfl rfl ?_
    refine zeGI rfl rfl (shM hb) rfl rfl ?_
    rw [hc.c]
    refine zeF2 rfl rfl (zcge_f (by omega) (by omega) (by omega)) ?_
    refine zeP rfl rfl ?_
    refine zeP rfl rfl ?_
    refine zeCV rfl rfl rfl rfl (shM hb) rfl (xc_strandAt (m := m) (b := b) (t := k) hb (by omega)) (by omega) ?_
    dsimp only [Option.toList, List.cons_append, List.nil_append]
    refine zeCV rfl rfl rfl rfl (shS hb (by omega)) rfl (xc_sDone (m := m) (b := b) (t := k) hb (by omega)) (by omega) ?_
    dsimp only [Option.toList, List.cons_append, List.nil_append]
    refine zeB1 rfl rfl (fun h1 => ?_) (fun h1 => ?_)
    · refine zeInc rfl rfl ?_
      refine zeP rfl rfl ?_
      simp only [xl_nextByDraw, h1, cond_true, cond_false]
      exact ih (x1) (a) ((k + 1))   (by omega) 
    · refine zeP rfl rfl ?_
      refine zeB1 rfl rfl (fun h2 => ?_) (fun h2 => ?_)
      · refine zeP rfl rfl ?_
        refine zeInc rfl rfl ?_
        refine zeP rfl rfl ?_
        simp only [xl_nextByDraw, h1, h2, cond_true, cond_false]
        exact ih (x1) ((a + Int32.ofInt (-1))) ((k + 1))   (by omega) 
      · refine zeP rfl rfl ?_
        exact zeRe rfl rfl rfl rfl (by simp only [xl_nextByDraw, h1, h2, cond_true, cond_false] <;> rfl) (by simp only [xl_nextByDraw, h1, h2, cond_true, cond_false] <;> rfl)
noncomputable def x_nextByDraw (m : Nat → Nat → Int32) (b : Nat) : Int32 × (Nat → Nat → Int32) := (bif zc2 .ge ((m b 5) - (x_bitCount ((x_doneBits m b)))) (Int32.ofNat 1) then ((xl_nextByDraw ((x_draw m b (((m b 5) - (x_bitCount ((x_doneBits m b)))))).2) b ((mv (x_draw m b (m b 5 - x_bitCount (x_doneBits m b))).2 b 5)) ((x_draw m b (((m b 5) - (x_bitCount ((x_doneBits m b)))))).1) 0), (x_draw m b (((m b 5) - (x_bitCount ((x_doneBits m b)))))).2) else ((-1), m))
theorem xp_nextByDraw {σ : Nat → Nat × (Nat → Int32)} {yy : (Nat → Nat → Int64) × Bool × Nat × Nat} {m : Nat → Nat → Int32} {b : Nat} {d : Nat} (hd : 3 ≤ d + 1) (hb : BB b) (hc : CG m b) : zEv σ (d + 1) 609 0 [some (.ref b), none, none, none] [] (zS1, m, yy) (.inl (some (.int (x_nextByDraw m b).1))) (zS1, ((x_nextByDraw m b).2), yy) := by
  refine zeP rfl rfl ?_
  refine zeGI rfl rfl (shM hb) rfl rfl ?_
  refine zeP rfl rfl ?_
  refine zeCV rfl rfl rfl rfl (shM hb) rfl (xc_doneBits (m := m) (b := b) hb hc) (by omega) ?_
  dsimp only [Option.toList, List.cons_append, List.nil_append]
  refine zeCF rfl rfl rfl rfl rfl rfl (xc_bitCount (m := m) (i := (x_doneBits m b)) ) (by omega) ?_
  dsimp only [Option.toList, List.cons_append, List.nil_append]
  refine zeP rfl rfl ?_
  refine zeP rfl rfl ?_
  refine zeP rfl rfl ?_
  refine zeKn (c := 1) rfl rfl rfl ?_
  refine zeB2 rfl rfl (fun h1 => ?_) (fun h1 => ?_)
  · refine zeP rfl rfl ?_
    refine zeP rfl rfl ?_
    refine zeCV rfl rfl rfl rfl (shM hb) rfl (xc_draw (m := m) (b := b) (x := ((m b 5) - (x_bitCount ((x_doneBits m b))))) hb) (by omega) ?_
    dsimp only [Option.toList, List.cons_append, List.nil_append]
    refine zeP rfl rfl ?_
    refine zeKn (c := 0) rfl rfl rfl ?_
    refine zeP rfl rfl ?_
    simp only [x_nextByDraw, h1, cond_true, cond_false]
    exact xw_nextByDraw (b := b) (m := (x_draw m b (((m b 5) - (x_bitCount ((x_doneBits m b)))))).2) (by omega) hb hc.draw hc.draw.c4 ((mv (x_draw m b (m b 5 - x_bitCount (x_doneBits m b))).2 b 5)) (some (.int ((m b 5) - (x_bitCount ((x_doneBits m b)))))) ((x_draw m b (((m b 5) - (x_bitCount ((x_doneBits m b)))))).1) (0)   (by omega) 
  · refine zeK (v := -1) rfl rfl rfl ?_
    exact zeRe rfl rfl rfl rfl (by simp only [x_nextByDraw, h1, cond_true, cond_false] <;> rfl) (by simp only [x_nextByDraw, h1, cond_true, cond_false] <;> rfl)
theorem xc_nextByDraw {σ : Nat → Nat × (Nat → Int32)} {yy : (Nat → Nat → Int64) × Bool × Nat × Nat} {m : Nat → Nat → Int32} {b : Nat} (hb : BB b) (hc : CG m b) : zF σ 3 609 [.ref b] (zS1, m, yy) (.inl (some (.int (x_nextByDraw m b).1))) (zS1, ((x_nextByDraw m b).2), yy) := by
  intro d hd
  obtain ⟨d, rfl⟩ : ∃ k, d = k + 1 := ⟨d - 1, by omega⟩
  exact xp_nextByDraw hd hb hc
theorem sDone_01 {m : Nat → Nat → Int32} {b t : Nat} : x_sDone m b t = 0 ∨ x_sDone m b t = 1 := by
  unfold x_sDone
  exact cndi (fun q : Int32 => q = 0 ∨ q = 1) (Or.inl rfl) (Or.inr rfl)
noncomputable def x_mDoneT (m : Nat → Nat → Int32) (b : Nat) (t : Nat) : Int32 := (x_sDone m b t)
theorem xp_mDoneT {σ : Nat → Nat × (Nat → Int32)} {yy : (Nat → Nat → Int64) × Bool × Nat × Nat} {m : Nat → Nat → Int32} {b : Nat} {t : Nat} {d : Nat} (hd : 2 ≤ d + 1) (hb : BB b) (ht : t < 4) : zEv σ (d + 1) 607 0 [some (.ref b), some (.int (Int32.ofNat t))] [] (zS1, m, yy) (.inl (some (.int (x_mDoneT m b t)))) (zS1, m, yy) := by
  refine zeP rfl rfl ?_
  refine zeK (v := -1) rfl rfl rfl ?_
  refine zeT2 rfl rfl (zne1t (by omega)) ?_
  refine zeP rfl rfl ?_
  refine zeP rfl rfl ?_
  refine zeCV rfl rfl rfl rfl (shM hb) rfl (xc_strandAt (m := m) (b := b) (t := t) hb ht) (by omega) ?_
  dsimp only [Option.toList, List.cons_append, List.nil_append]
  refine zeCV rfl rfl rfl rfl (shS hb (by omega)) rfl (xc_sDone (m := m) (b := b) (t := t) hb ht) (by omega) ?_
  dsimp only [Option.toList, List.cons_append, List.nil_append]
  exact zeRe rfl rfl rfl (zretB rfl rfl sDone_01) (by rfl) (by rfl)
theorem xc_mDoneT {σ : Nat → Nat × (Nat → Int32)} {yy : (Nat → Nat → Int64) × Bool × Nat × Nat} {m : Nat → Nat → Int32} {b : Nat} {t : Nat} (hb : BB b) (ht : t < 4) : zF σ 2 607 [.ref b, .int (Int32.ofNat t)] (zS1, m, yy) (.inl (some (.int (x_mDoneT m b t)))) (zS1, m, yy) := by
  intro d hd
  obtain ⟨d, rfl⟩ : ∃ k, d = k + 1 := ⟨d - 1, by omega⟩
  exact xp_mDoneT hd hb ht
noncomputable def x_mDoneX (m : Nat → Nat → Int32) (b : Nat) : Int32 := (bif zc2 .ne (x_nextByTurn m b) (-1) then (Int32.ofNat 0) else (Int32.ofNat 1))
theorem xp_mDoneX {σ : Nat → Nat × (Nat → Int32)} {yy : (Nat → Nat → Int64) × Bool × Nat × Nat} {m : Nat → Nat → Int32} {b : Nat} {d : Nat} (hd : 3 ≤ d + 1) (hb : BB b) (hc : CG m b) (hL : LTC m b) : zEv σ (d + 1) 607 0 [some (.ref b), some (.int (-1))] [] (zS1, m, yy) (.inl (some (.int (x_mDoneX m b)))) (zS1, m, yy) := by
  refine zeP rfl rfl ?_
  refine zeK (v := -1) rfl rfl rfl ?_
  refine zeF2 rfl rfl (by decide) ?_
  refine zeP rfl rfl ?_
  refine zeCV rfl rfl rfl rfl (shM hb) rfl (xc_nextByTurn (m := m) (b := b) hb hc hL) (by omega) ?_
  dsimp only [Option.toList, List.cons_append, List.nil_append]
  refine zeK (v := -1) rfl rfl rfl ?_
  refine zeB2 rfl rfl (fun h1 => ?_) (fun h1 => ?_)
  · refine zeKn (c := 0) rfl rfl rfl ?_
    refine zeP rfl rfl ?_
    exact zeRe rfl rfl rfl rfl (by simp only [x_mDoneX, h1, cond_true, cond_false] <;> rfl) (by simp only [x_mDoneX, h1, cond_true, cond_false] <;> rfl)
  · refine zeKn (c := 1) rfl rfl rfl ?_
    refine zeP rfl rfl ?_
    exact zeRe rfl rfl rfl rfl (by simp only [x_mDoneX, h1, cond_true, cond_false] <;> rfl) (by simp only [x_mDoneX, h1, cond_true, cond_false] <;> rfl)
theorem xc_mDoneX {σ : Nat → Nat × (Nat → Int32)} {yy : (Nat → Nat → Int64) × Bool × Nat × Nat} {m : Nat → Nat → Int32} {b : Nat} (hb : BB b) (hc : CG m b) (hL : LTC m b) : zF σ 3 607 [.ref b, .int (-1)] (zS1, m, yy) (.inl (some (.int (x_mDoneX m b)))) (zS1, m, yy) := by
  intro d hd
  obtain ⟨d, rfl⟩ : ∃ k, d = k + 1 := ⟨d - 1, by omega⟩
  exact xp_mDoneX hd hb hc hL
end
