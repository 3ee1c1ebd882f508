/-! d2.cls d3.fb d4.ecls d5.ecls d6.yf -/
section
theorem zne_eq {a c : Nat} (ha : a < 2147483648) (hc : c < 2147483648) (h : zc2 .ne (Int32.ofNat a) (Int32.ofNat c) = false) : a = c := by
  have e := of_decide_eq_false h
  have e2 : Int32.ofNat a = Int32.ofNat c := Classical.byContradiction (fun q => e q)
  have e3 := congrArg Int32.toInt e2
  rw [zoN ha, zoN hc] at e3
  omega
noncomputable def xl_blocksL0 (m : Nat → Nat → Int32) (b : Nat) (t : Nat) : Nat → Int32 → Nat → Int32
  | 0, a, k => a
  | n + 1, a, k => (bif zc2 .ne (Int32.ofNat (mv m (b + 11 + 7 * t) k)) (Int32.ofNat 0) then (xl_blocksL0 m b t n a ((k + 1))) else (xl_blocksL0 m b t n ((a ||| (x_blockBit m b ((m ((b + 5 + ((mv m (b + 12 + 7 * t) k)))) 0))))) ((k + 1))))
theorem xw_blocksL0 {σ : Nat → Nat × (Nat → Int32)} {yy : (Nat → Nat → Int64) × Bool × Nat × Nat} {m : Nat → Nat → Int32} {b : Nat} {t : Nat} {d : Nat} (hd : 2 ≤ d + 1) (hb : BB b) (ht : t < 4) (hD : DT m b t) (h24 : mv m (b + 10 + 7 * t) 2 ≤ 24) : ∀ (n : Nat) (a : Int32) (k : Nat) (x5 : Option Value) (x6 : Option Value), k + n = mv m (b + 10 + 7 * t) 2 → zEv σ (d + 1) 625 5 [some (.ref b), some (.ref (b + 10 + 7 * t)), some (.int (Int32.ofNat 0)), some (.int a), some (.int (Int32.ofNat k)), x5, x6] [] (zS1, m, yy) (.inl (some (.int (xl_blocksL0 m b t n a k)))) (zS1, m, yy) := by
  intro n
  induction n with
  | zero =>
    intro a k x5 x6 hk
    refine zeP rfl rfl ?_
    refine zeP rfl rfl ?_
    refine zeGI rfl rfl (shS hb (by omega)) rfl rfl ?_
    rw [hD.1.1]
    refine zeT2 rfl rfl (zcge (by omega) (by omega) (by omega)) ?_
    refine zeP rfl rfl ?_
    exact zeRe rfl rfl rfl rfl (by rfl) (by rfl)
  | succ n ih =>
    intro a k x5 x6 hk
    refine zeP rfl rfl ?_
    refine zeP rfl rfl ?_
    refine zeGI rfl rfl (shS hb (by omega)) rfl rfl ?_
    rw [hD.1.1]
    refine zeF2 rfl rfl (zcge_f (by omega) (by omega) (by omega)) ?_
    refine zeP rfl rfl ?_
    refine zeP rfl rfl ?_
    refine zeCV rfl rfl rfl rfl (shS hb (by omega)) rfl (xc_kindAt (m := m) (b := b) (t := t) (p := k) hb ht (by omega)) (by omega) ?_
    dsimp only [Option.toList, List.cons_append, List.nil_append]
    rw [(show x_kindAt m b t k = Int32.ofNat (mv m (b + 11 + 7 * t) k) from (hD.2.2.2.2 k (by omega)).1.1)]
    refine zeP rfl rfl ?_
    refine zeB2 rfl rfl (fun h1 => ?_) (fun h1 => ?_)
    · refine zeInc rfl rfl ?_
      refine zeP rfl rfl ?_
      simp only [xl_blocksL0, h1, cond_true, cond_false]
      exact ih (a) ((k + 1)) (x5) (x6)   (by omega) 
    · refine zeP rfl rfl ?_
      refine zeP rfl rfl ?_
      refine zeCV rfl rfl rfl rfl (shS hb (by omega)) rfl (xc_numberAt (m := m) (b := b) (t := t) (p := k) hb ht (by omega)) (by omega) ?_
      dsimp only [Option.toList, List.cons_append, List.nil_append]
      rw [(show x_numberAt m b t k = Int32.ofNat (mv m (b + 12 + 7 * t) k) from (hD.2.2.2.2 k (by omega)).2.1.1)]
      refine zeP rfl rfl ?_
      refine zeP rfl rfl ?_
      refine zeT1 rfl rfl (show zc1 .eq (Int32.ofNat 0) = true by decide) ?_
      refine zeKn (c := 1) rfl rfl rfl ?_
      refine zeP rfl rfl ?_
      refine zeP rfl rfl ?_
      have hq4 : mv m (b + 12 + 7 * t) k < 4 := by
        have e1 := zne_eq (a := mv m (b + 11 + 7 * t) k) (c := 0) (by have := (hD.2.2.2.2 k (by omega)).1.2; omega) (by omega) (by assumption)
        have e2 := (hD.2.2.2.2 k (by omega)).2.2.1
        omega
      refine zeP rfl rfl ?_
      refine zeP rfl rfl ?_
      refine zeP rfl rfl ?_
      refine zeF1 rfl rfl (show zc1 .eq (Int32.ofNat 1) = false by decide) ?_
      refine zeP rfl rfl ?_
      refine zeP rfl rfl ?_
      refine zeCV rfl rfl rfl rfl (shM hb) rfl (xc_lockAt (m := m) (b := b) (l := (mv m (b + 12 + 7 * t) k)) hb hq4) (by omega) ?_
      dsimp only [Option.toList, List.cons_append, List.nil_append]
      refine zeGI rfl rfl (shL hb (by omega)) rfl rfl ?_
      refine zeP rfl rfl ?_
      refine zeCV rfl rfl rfl rfl (shM hb) rfl (xc_blockBit (m := m) (b := b) (w := (m ((b + 5 + ((mv m (b + 12 + 7 * t) k)))) 0)) hb) (by omega) ?_
      dsimp only [Option.toList, List.cons_append, List.nil_append]
      refine zeP rfl rfl ?_
      refine zeP rfl rfl ?_
      refine zeInc rfl rfl ?_
      refine zeP rfl rfl ?_
      simp only [xl_blocksL0, h1, cond_true, cond_false]
      exact ih ((a ||| (x_blockBit m b ((m ((b + 5 + ((mv m (b + 12 + 7 * t) k)))) 0))))) ((k + 1)) (some (.int (Int32.ofNat (mv m (b + 12 + 7 * t) k)))) (some (.int (Int32.ofNat 1)))   (by omega) 
noncomputable def x_blocksOf0 (m : Nat → Nat → Int32) (b : Nat) (t : Nat) : Int32 := (xl_blocksL0 m b t ((mv m (b + 10 + 7 * t) 2)) ((Int32.ofNat 0)) 0)
theorem xp_blocksOf0 {σ : Nat → Nat × (Nat → Int32)} {yy : (Nat → Nat → Int64) × Bool × Nat × Nat} {m : Nat → Nat → Int32} {b : Nat} {t : Nat} {d : Nat} (hd : 2 ≤ d + 1) (hb : BB b) (ht : t < 4) (hD : DT m b t) : zEv σ (d + 1) 625 0 [some (.ref b), some (.ref (b + 10 + 7 * t)), some (.int (Int32.ofNat 0)), none, none, none, none] [] (zS1, m, yy) (.inl (some (.int (x_blocksOf0 m b t)))) (zS1, m, yy) := by
  refine zeKn (c := 0) rfl rfl rfl ?_
  refine zeP rfl rfl ?_
  refine zeKn (c := 0) rfl rfl rfl ?_
  refine zeP rfl rfl ?_
  simp only [x_blocksOf0, cond_true, cond_false]
  exact xw_blocksL0 (b := b) (t := t) (m := m) (by omega) hb ht hD hD.1.2 ((mv m (b + 10 + 7 * t) 2)) ((Int32.ofNat 0)) (0) (none) (none)   (by omega) 
theorem xc_blocksOf0 {σ : Nat → Nat × (Nat → Int32)} {yy : (Nat → Nat → Int64) × Bool × Nat × Nat} {m : Nat → Nat → Int32} {b : Nat} {t : Nat} (hb : BB b) (ht : t < 4) (hD : DT m b t) : zF σ 2 625 [.ref b, .ref (b + 10 + 7 * t), .int (Int32.ofNat 0)] (zS1, m, yy) (.inl (some (.int (x_blocksOf0 m b t)))) (zS1, m, yy) := by
  intro d hd
  obtain ⟨d, rfl⟩ : ∃ k, d = k + 1 := ⟨d - 1, by omega⟩
  exact xp_blocksOf0 hd hb ht hD
noncomputable def xl_blocksL1 (m : Nat → Nat → Int32) (b : Nat) (t : Nat) : Nat → Int32 → Nat → Int32
  | 0, a, k => a
  | n + 1, a, k => (bif zc2 .ne (Int32.ofNat (mv m (b + 11 + 7 * t) k)) (Int32.ofNat 1) then (xl_blocksL1 m b t n a ((k + 1))) else (xl_blocksL1 m b t n ((a ||| (x_blockBit m b ((m ((b + 5 + ((mv m (b + 12 + 7 * t) k)))) 0))))) ((k + 1))))
theorem xw_blocksL1 {σ : Nat → Nat × (Nat → Int32)} {yy : (Nat → Nat → Int64) × Bool × Nat × Nat} {m : Nat → Nat → Int32} {b : Nat} {t : Nat} {d : Nat} (hd : 2 ≤ d + 1) (hb : BB b) (ht : t < 4) (hD : DT m b t) (h24 : mv m (b + 10 + 7 * t) 2 ≤ 24) : ∀ (n : Nat) (a : Int32) (k : Nat) (x5 : Option Value) (x6 : Option Value), k + n = mv m (b + 10 + 7 * t) 2 → zEv σ (d + 1) 625 5 [some (.ref b), some (.ref (b + 10 + 7 * t)), some (.int (Int32.ofNat 1)), some (.int a), some (.int (Int32.ofNat k)), x5, x6] [] (zS1, m, yy) (.inl (some (.int (xl_blocksL1 m b t n a k)))) (zS1, m, yy) := by
  intro n
  induction n with
  | zero =>
    intro a k x5 x6 hk
    refine zeP rfl rfl ?_
    refine zeP rfl rfl ?_
    refine zeGI rfl rfl (shS hb (by omega)) rfl rfl ?_
    rw [hD.1.1]
    refine zeT2 rfl rfl (zcge (by omega) (by omega) (by omega)) ?_
    refine zeP rfl rfl ?_
    exact zeRe rfl rfl rfl rfl (by rfl) (by rfl)
  | succ n ih =>
    intro a k x5 x6 hk
    refine zeP rfl rfl ?_
    refine zeP rfl rfl ?_
    refine zeGI rfl rfl (shS hb (by omega)) rfl rfl ?_
    rw [hD.1.1]
    refine zeF2 rfl rfl (zcge_f (by omega) (by omega) (by omega)) ?_
    refine zeP rfl rfl ?_
    refine zeP rfl rfl ?_
    refine zeCV rfl rfl rfl rfl (shS hb (by omega)) rfl (xc_kindAt (m := m) (b := b) (t := t) (p := k) hb ht (by omega)) (by omega) ?_
    dsimp only [Option.toList, List.cons_append, List.nil_append]
    rw [(show x_kindAt m b t k = Int32.ofNat (mv m (b + 11 + 7 * t) k) from (hD.2.2.2.2 k (by omega)).1.1)]
    refine zeP rfl rfl ?_
    refine zeB2 rfl rfl (fun h1 => ?_) (fun h1 => ?_)
    · refine zeInc rfl rfl ?_
      refine zeP rfl rfl ?_
      simp only [xl_blocksL1, h1, cond_true, cond_false]
      exact ih (a) ((k + 1)) (x5) (x6)   (by omega) 
    · refine zeP rfl rfl ?_
      refine zeP rfl rfl ?_
      refine zeCV rfl rfl rfl rfl (shS hb (by omega)) rfl (xc_numberAt (m := m) (b := b) (t := t) (p := k) hb ht (by omega)) (by omega) ?_
      dsimp only [Option.toList, List.cons_append, List.nil_append]
      rw [(show x_numberAt m b t k = Int32.ofNat (mv m (b + 12 + 7 * t) k) from (hD.2.2.2.2 k (by omega)).2.1.1)]
      refine zeP rfl rfl ?_
      refine zeP rfl rfl ?_
      refine zeF1 rfl rfl (show zc1 .eq (Int32.ofNat 1) = false by decide) ?_
      refine zeP rfl rfl ?_
      refine zeKn (c := 1) rfl rfl rfl ?_
      refine zeF2 rfl rfl (show zc2 .ne (Int32.ofNat 1) (Int32.ofNat 1) = false by decide) ?_
      refine zeKn (c := 1) rfl rfl rfl ?_
      refine zeP rfl rfl ?_
      refine zeP rfl rfl ?_
      have hq4 : mv m (b + 12 + 7 * t) k < 4 := by
        have e1 := zne_eq (a := mv m (b + 11 + 7 * t) k) (c := 1) (by have := (hD.2.2.2.2 k (by omega)).1.2; omega) (by omega) (by assumption)
        have e2 := (hD.2.2.2.2 k (by omega)).2.2.1
        omega
      refine zeP rfl rfl ?_
      refine zeP rfl rfl ?_
      refine zeP rfl rfl ?_
      refine zeF1 rfl rfl (show zc1 .eq (Int32.ofNat 1) = false by decide) ?_
      refine zeP rfl rfl ?_
      refine zeP rfl rfl ?_
      refine zeCV rfl rfl rfl rfl (shM hb) rfl (xc_lockAt (m := m) (b := b) (l := (mv m (b + 12 + 7 * t) k)) hb hq4) (by omega) ?_
      dsimp only [Option.toList, List.cons_append, List.nil_append]
      refine zeGI rfl rfl (shL hb (by omega)) rfl rfl ?_
      refine zeP rfl rfl ?_
      refine zeCV rfl rfl rfl rfl (shM hb) rfl (xc_blockBit (m := m) (b := b) (w := (m ((b + 5 + ((mv m (b + 12 + 7 * t) k)))) 0)) hb) (by omega) ?_
      dsimp only [Option.toList, List.cons_append, List.nil_append]
      refine zeP rfl rfl ?_
      refine zeP rfl rfl ?_
      refine zeInc rfl rfl ?_
      refine zeP rfl rfl ?_
      simp only [xl_blocksL1, h1, cond_true, cond_false]
      exact ih ((a ||| (x_blockBit m b ((m ((b + 5 + ((mv m (b + 12 + 7 * t) k)))) 0))))) ((k + 1)) (some (.int (Int32.ofNat (mv m (b + 12 + 7 * t) k)))) (some (.int (Int32.ofNat 1)))   (by omega) 
noncomputable def x_blocksOf1 (m : Nat → Nat → Int32) (b : Nat) (t : Nat) : Int32 := (xl_blocksL1 m b t ((mv m (b + 10 + 7 * t) 2)) ((Int32.ofNat 0)) 0)
theorem xp_blocksOf1 {σ : Nat → Nat × (Nat → Int32)} {yy : (Nat → Nat → Int64) × Bool × Nat × Nat} {m : Nat → Nat → Int32} {b : Nat} {t : Nat} {d : Nat} (hd : 2 ≤ d + 1) (hb : BB b) (ht : t < 4) (hD : DT m b t) : zEv σ (d + 1) 625 0 [some (.ref b), some (.ref (b + 10 + 7 * t)), some (.int (Int32.ofNat 1)), none, none, none, none] [] (zS1, m, yy) (.inl (some (.int (x_blocksOf1 m b t)))) (zS1, m, yy) := by
  refine zeKn (c := 0) rfl rfl rfl ?_
  refine zeP rfl rfl ?_
  refine zeKn (c := 0) rfl rfl rfl ?_
  refine zeP rfl rfl ?_
  simp only [x_blocksOf1, cond_true, cond_false]
  exact xw_blocksL1 (b := b) (t := t) (m := m) (by omega) hb ht hD hD.1.2 ((mv m (b + 10 + 7 * t) 2)) ((Int32.ofNat 0)) (0) (none) (none)   (by omega) 
theorem xc_blocksOf1 {σ : Nat → Nat × (Nat → Int32)} {yy : (Nat → Nat → Int64) × Bool × Nat × Nat} {m : Nat → Nat → Int32} {b : Nat} {t : Nat} (hb : BB b) (ht : t < 4) (hD : DT m b t) : zF σ 2 625 [.ref b, .ref (b + 10 + 7 * t), .int (Int32.ofNat 1)] (zS1, m, yy) (.inl (some (.int (x_blocksOf1 m b t)))) (zS1, m, yy) := by
  intro d hd
  obtain ⟨d, rfl⟩ : ∃ k, d = k + 1 := ⟨d - 1, by omega⟩
  exact xp_blocksOf1 hd hb ht hD
noncomputable def xl_blocksL2 (m : Nat → Nat → Int32) (b : Nat) (t : Nat) : Nat → Int32 → Nat → Int32
  | 0, a, k => a
  | n + 1, a, k => (bif zc2 .ne (Int32.ofNat (mv m (b + 11 + 7 * t) k)) (Int32.ofNat 2) then (xl_blocksL2 m b t n a ((k + 1))) else (xl_blocksL2 m b t n ((a ||| (x_blockBit m b ((Int32.ofNat (mv m (b + 12 + 7 * t) k)))))) ((k + 1))))
theorem xw_blocksL2 {σ : Nat → Nat × (Nat → Int32)} {yy : (Nat → Nat → Int64) × Bool × Nat × Nat} {m : Nat → Nat → Int32} {b : Nat} {t : Nat} {d : Nat} (hd : 2 ≤ d + 1) (hb : BB b) (ht : t < 4) (hD : DT m b t) (h24 : mv m (b + 10 + 7 * t) 2 ≤ 24) : ∀ (n : Nat) (a : Int32) (k : Nat) (x5 : Option Value) (x6 : Option Value), k + n = mv m (b + 10 + 7 * t) 2 → zEv σ (d + 1) 625 5 [some (.ref b), some (.ref (b + 10 + 7 * t)), some (.int (Int32.ofNat 2)), some (.int a), some (.int (Int32.ofNat k)), x5, x6] [] (zS1, m, yy) (.inl (some (.int (xl_blocksL2 m b t n a k)))) (zS1, m, yy) := by
  intro n
  induction n with
  | zero =>
    intro a k x5 x6 hk
    refine zeP rfl rfl ?_
    refine zeP rfl rfl ?_
    refine zeGI rfl rfl (shS hb (by omega)) rfl rfl ?_
    rw [hD.1.1]
    refine zeT2 rfl rfl (zcge (by omega) (by omega) (by omega)) ?_
    refine zeP rfl rfl ?_
    exact zeRe rfl rfl rfl rfl (by rfl) (by rfl)
  | succ n ih =>
    intro a k x5 x6 hk
    refine zeP rfl rfl ?_
    refine zeP rfl rfl ?_
    refine zeGI rfl rfl (shS hb (by omega)) rfl rfl ?_
    rw [hD.1.1]
    refine zeF2 rfl rfl (zcge_f (by omega) (by omega) (by omega)) ?_
    refine zeP rfl rfl ?_
    refine zeP rfl rfl ?_
    refine zeCV rfl rfl rfl rfl (shS hb (by omega)) rfl (xc_kindAt (m := m) (b := b) (t := t) (p := k) hb ht (by omega)) (by omega) ?_
    dsimp only [Option.toList, List.cons_append, List.nil_append]
    rw [(show x_kindAt m b t k = Int32.ofNat (mv m (b + 11 + 7 * t) k) from (hD.2.2.2.2 k (by omega)).1.1)]
    refine zeP rfl rfl ?_
    refine zeB2 rfl rfl (fun h1 => ?_) (fun h1 => ?_)
    · refine zeInc rfl rfl ?_
      refine zeP rfl rfl ?_
      simp only [xl_blocksL2, h1, cond_true, cond_false]
      exact ih (a) ((k + 1)) (x5) (x6)   (by omega) 
    · refine zeP rfl rfl ?_
      refine zeP rfl rfl ?_
      refine zeCV rfl rfl rfl rfl (shS hb (by omega)) rfl (xc_numberAt (m := m) (b := b) (t := t) (p := k) hb ht (by omega)) (by omega) ?_
      dsimp only [Option.toList, List.cons_append, List.nil_append]
      rw [(show x_numberAt m b t k = Int32.ofNat (mv m (b + 12 + 7 * t) k) from (hD.2.2.2.2 k (by omega)).2.1.1)]
      refine zeP rfl rfl ?_
      refine zeP rfl rfl ?_
      refine zeF1 rfl rfl (show zc1 .eq (Int32.ofNat 2) = false by decide) ?_
      refine zeP rfl rfl ?_
      refine zeKn (c := 1) rfl rfl rfl ?_
      refine zeT2 rfl rfl (show zc2 .ne (Int32.ofNat 2) (Int32.ofNat 1) = true by decide) ?_
      refine zeKn (c := 0) rfl rfl rfl ?_
      refine zeP rfl rfl ?_
      refine zeP rfl rfl ?_
      refine zeP rfl rfl ?_
      refine zeP rfl rfl ?_
      refine zeT1 rfl rfl (show zc1 .eq (Int32.ofNat 0) = true by decide) ?_
      refine zeP rfl rfl ?_
      refine zeCV rfl rfl rfl rfl (shM hb) rfl (xc_blockBit (m := m) (b := b) (w := (Int32.ofNat (mv m (b + 12 + 7 * t) k))) hb) (by omega) ?_
      dsimp only [Option.toList, List.cons_append, List.nil_append]
      refine zeP rfl rfl ?_
      refine zeP rfl rfl ?_
      refine zeInc rfl rfl ?_
      refine zeP rfl rfl ?_
      simp only [xl_blocksL2, h1, cond_true, cond_false]
      exact ih ((a ||| (x_blockBit m b ((Int32.ofNat (mv m (b + 12 + 7 * t) k)))))) ((k + 1)) (some (.int (Int32.ofNat (mv m (b + 12 + 7 * t) k)))) (some (.int (Int32.ofNat 0)))   (by omega) 
noncomputable def x_blocksOf2 (m : Nat → Nat → Int32) (b : Nat) (t : Nat) : Int32 := (xl_blocksL2 m b t ((mv m (b + 10 + 7 * t) 2)) ((Int32.ofNat 0)) 0)
theorem xp_blocksOf2 {σ : Nat → Nat × (Nat → Int32)} {yy : (Nat → Nat → Int64) × Bool × Nat × Nat} {m : Nat → Nat → Int32} {b : Nat} {t : Nat} {d : Nat} (hd : 2 ≤ d + 1) (hb : BB b) (ht : t < 4) (hD : DT m b t) : zEv σ (d + 1) 625 0 [some (.ref b), some (.ref (b + 10 + 7 * t)), some (.int (Int32.ofNat 2)), none, none, none, none] [] (zS1, m, yy) (.inl (some (.int (x_blocksOf2 m b t)))) (zS1, m, yy) := by
  refine zeKn (c := 0) rfl rfl rfl ?_
  refine zeP rfl rfl ?_
  refine zeKn (c := 0) rfl rfl rfl ?_
  refine zeP rfl rfl ?_
  simp only [x_blocksOf2, cond_true, cond_false]
  exact xw_blocksL2 (b := b) (t := t) (m := m) (by omega) hb ht hD hD.1.2 ((mv m (b + 10 + 7 * t) 2)) ((Int32.ofNat 0)) (0) (none) (none)   (by omega) 
theorem xc_blocksOf2 {σ : Nat → Nat × (Nat → Int32)} {yy : (Nat → Nat → Int64) × Bool × Nat × Nat} {m : Nat → Nat → Int32} {b : Nat} {t : Nat} (hb : BB b) (ht : t < 4) (hD : DT m b t) : zF σ 2 625 [.ref b, .ref (b + 10 + 7 * t), .int (Int32.ofNat 2)] (zS1, m, yy) (.inl (some (.int (x_blocksOf2 m b t)))) (zS1, m, yy) := by
  intro d hd
  obtain ⟨d, rfl⟩ : ∃ k, d = k + 1 := ⟨d - 1, by omega⟩
  exact xp_blocksOf2 hd hb ht hD
noncomputable def xl_blocksL3 (m : Nat → Nat → Int32) (b : Nat) (t : Nat) : Nat → Int32 → Nat → Int32
  | 0, a, k => a
  | n + 1, a, k => (bif zc2 .ne (Int32.ofNat (mv m (b + 11 + 7 * t) k)) (Int32.ofNat 3) then (xl_blocksL3 m b t n a ((k + 1))) else (xl_blocksL3 m b t n ((a ||| (x_blockBit m b ((Int32.ofNat (mv m (b + 12 + 7 * t) k)))))) ((k + 1))))
theorem xw_blocksL3 {σ : Nat → Nat × (Nat → Int32)} {yy : (Nat → Nat → Int64) × Bool × Nat × Nat} {m : Nat → Nat → Int32} {b : Nat} {t : Nat} {d : Nat} (hd : 2 ≤ d + 1) (hb : BB b) (ht : t < 4) (hD : DT m b t) (h24 : mv m (b + 10 + 7 * t) 2 ≤ 24) : ∀ (n : Nat) (a : Int32) (k : Nat) (x5 : Option Value) (x6 : Option Value), k + n = mv m (b + 10 + 7 * t) 2 → zEv σ (d + 1) 625 5 [some (.ref b), some (.ref (b + 10 + 7 * t)), some (.int (Int32.ofNat 3)), some (.int a), some (.int (Int32.ofNat k)), x5, x6] [] (zS1, m, yy) (.inl (some (.int (xl_blocksL3 m b t n a k)))) (zS1, m, yy) := by
  intro n
  induction n with
  | zero =>
    intro a k x5 x6 hk
    refine zeP rfl rfl ?_
    refine zeP rfl rfl ?_
    refine zeGI rfl rfl (shS hb (by omega)) rfl rfl ?_
    rw [hD.1.1]
    refine zeT2 rfl rfl (zcge (by omega) (by omega) (by omega)) ?_
    refine zeP rfl rfl ?_
    exact zeRe rfl rfl rfl rfl (by rfl) (by rfl)
  | succ n ih =>
    intro a k x5 x6 hk
    refine zeP rfl rfl ?_
    refine zeP rfl rfl ?_
    refine zeGI rfl rfl (shS hb (by omega)) rfl rfl ?_
    rw [hD.1.1]
    refine zeF2 rfl rfl (zcge_f (by omega) (by omega) (by omega)) ?_
    refine zeP rfl rfl ?_
    refine zeP rfl rfl ?_
    refine zeCV rfl rfl rfl rfl (shS hb (by omega)) rfl (xc_kindAt (m := m) (b := b) (t := t) (p := k) hb ht (by omega)) (by omega) ?_
    dsimp only [Option.toList, List.cons_append, List.nil_append]
    rw [(show x_kindAt m b t k = Int32.ofNat (mv m (b + 11 + 7 * t) k) from (hD.2.2.2.2 k (by omega)).1.1)]
    refine zeP rfl rfl ?_
    refine zeB2 rfl rfl (fun h1 => ?_) (fun h1 => ?_)
    · refine zeInc rfl rfl ?_
      refine zeP rfl rfl ?_
      simp only [xl_blocksL3, h1, cond_true, cond_false]
      exact ih (a) ((k + 1)) (x5) (x6)   (by omega) 
    · refine zeP rfl rfl ?_
      refine zeP rfl rfl ?_
      refine zeCV rfl rfl rfl rfl (shS hb (by omega)) rfl (xc_numberAt (m := m) (b := b) (t := t) (p := k) hb ht (by omega)) (by omega) ?_
      dsimp only [Option.toList, List.cons_append, List.nil_append]
      rw [(show x_numberAt m b t k = Int32.ofNat (mv m (b + 12 + 7 * t) k) from (hD.2.2.2.2 k (by omega)).2.1.1)]
      refine zeP rfl rfl ?_
      refine zeP rfl rfl ?_
      refine zeF1 rfl rfl (show zc1 .eq (Int32.ofNat 3) = false by decide) ?_
      refine zeP rfl rfl ?_
      refine zeKn (c := 1) rfl rfl rfl ?_
      refine zeT2 rfl rfl (show zc2 .ne (Int32.ofNat 3) (Int32.ofNat 1) = true by decide) ?_
      refine zeKn (c := 0) rfl rfl rfl ?_
      refine zeP rfl rfl ?_
      refine zeP rfl rfl ?_
      refine zeP rfl rfl ?_
      refine zeP rfl rfl ?_
      refine zeT1 rfl rfl (show zc1 .eq (Int32.ofNat 0) = true by decide) ?_
      refine zeP rfl rfl ?_
      refine zeCV rfl rfl rfl rfl (shM hb) rfl (xc_blockBit (m := m) (b := b) (w := (Int32.ofNat (mv m (b + 12 + 7 * t) k))) hb) (by omega) ?_
      dsimp only [Option.toList, List.cons_append, List.nil_append]
      refine zeP rfl rfl ?_
      refine zeP rfl rfl ?_
      refine zeInc rfl rfl ?_
      refine zeP rfl rfl ?_
      simp only [xl_blocksL3, h1, cond_true, cond_false]
      exact ih ((a ||| (x_blockBit m b ((Int32.ofNat (mv m (b + 12 + 7 * t) k)))))) ((k + 1)) (some (.int (Int32.ofNat (mv m (b + 12 + 7 * t) k)))) (some (.int (Int32.ofNat 0)))   (by omega) 
noncomputable def x_blocksOf3 (m : Nat → Nat → Int32) (b : Nat) (t : Nat) : Int32 := (xl_blocksL3 m b t ((mv m (b + 10 + 7 * t) 2)) ((Int32.ofNat 0)) 0)
theorem xp_blocksOf3 {σ : Nat → Nat × (Nat → Int32)} {yy : (Nat → Nat → Int64) × Bool × Nat × Nat} {m : Nat → Nat → Int32} {b : Nat} {t : Nat} {d : Nat} (hd : 2 ≤ d + 1) (hb : BB b) (ht : t < 4) (hD : DT m b t) : zEv σ (d + 1) 625 0 [some (.ref b), some (.ref (b + 10 + 7 * t)), some (.int (Int32.ofNat 3)), none, none, none, none] [] (zS1, m, yy) (.inl (some (.int (x_blocksOf3 m b t)))) (zS1, m, yy) := by
  refine zeKn (c := 0) rfl rfl rfl ?_
  refine zeP rfl rfl ?_
  refine zeKn (c := 0) rfl rfl rfl ?_
  refine zeP rfl rfl ?_
  simp only [x_blocksOf3, cond_true, cond_false]
  exact xw_blocksL3 (b := b) (t := t) (m := m) (by omega) hb ht hD hD.1.2 ((mv m (b + 10 + 7 * t) 2)) ((Int32.ofNat 0)) (0) (none) (none)   (by omega) 
theorem xc_blocksOf3 {σ : Nat → Nat × (Nat → Int32)} {yy : (Nat → Nat → Int64) × Bool × Nat × Nat} {m : Nat → Nat → Int32} {b : Nat} {t : Nat} (hb : BB b) (ht : t < 4) (hD : DT m b t) : zF σ 2 625 [.ref b, .ref (b + 10 + 7 * t), .int (Int32.ofNat 3)] (zS1, m, yy) (.inl (some (.int (x_blocksOf3 m b t)))) (zS1, m, yy) := by
  intro d hd
  obtain ⟨d, rfl⟩ : ∃ k, d = k + 1 := ⟨d - 1, by omega⟩
  exact xp_blocksOf3 hd hb ht hD
noncomputable def x_reachXC (m : Nat → Nat → Int32) (b : Nat) (w : Nat) (v : Int32) (x : Int32) (r : Int32) (o : Int32) : Int32 × (Nat → Nat → Int32) := (bif zc1 .eq r then ((Int32.ofNat 1), m) else ((Int32.ofNat 1), (zm2 m ((b + 1)) w v)))
theorem xp_reachXC {σ : Nat → Nat × (Nat → Int32)} {yy : (Nat → Nat → Int64) × Bool × Nat × Nat} {m : Nat → Nat → Int32} {b : Nat} {w : Nat} {v : Int32} {x : Int32} {r : Int32} {o : Int32} {x8 : Option Value} {d : Nat} (hd : 1 ≤ d + 1) (hb : BB b) (hw : w < 32) : zEv σ (d + 1) 620 149 [some (.ref b), some (.int (-1)), some (.int (Int32.ofNat w)), some (.int v), some (.int x), some (.int r), some (.int (Int32.ofNat 0)), some (.int o), x8] [] (zS1, m, yy) (.inl (some (.int (x_reachXC m b w v x r o).1))) (zS1, ((x_reachXC m b w v x r o).2), yy) := by
  refine zeP rfl rfl ?_
  refine zeT1 rfl rfl (show zc1 .eq (Int32.ofNat 0) = true by decide) ?_
  refine zeP rfl rfl ?_
  refine zeT1 rfl rfl (show zc1 .eq (Int32.ofNat 0) = true by decide) ?_
  refine zeP rfl rfl ?_
  refine zeB1 rfl rfl (fun h1 => ?_) (fun h1 => ?_)
  · refine zeKn (c := 1) rfl rfl rfl ?_
    exact zeRe rfl rfl rfl rfl (by simp only [x_reachXC, h1, cond_true, cond_false] <;> rfl) (by simp only [x_reachXC, h1, cond_true, cond_false] <;> rfl)
  · refine zeP rfl rfl ?_
    refine zeGR rfl rfl (shM hb) rfl rfl ?_
    refine zeP rfl rfl ?_
    refine zeKn (c := 31) rfl rfl rfl ?_
    refine zeON (c := w) rfl rfl (zand31 _ hw) ?_
    refine zeP rfl rfl ?_
    refine zeAS (k := w) rfl (shW hb) rfl (by omega) ?_
    refine zeKn (c := 1) rfl rfl rfl ?_
    exact zeRe rfl rfl rfl rfl (by simp only [x_reachXC, h1, cond_true, cond_false] <;> rfl) (by simp only [x_reachXC, h1, cond_true, cond_false] <;> rfl)
noncomputable def xl_reachXL (b : Nat) (w : Nat) (v : Int32) (x : Int32) (r : Int32) (o : Int32) (n5 : Nat) : Nat → Nat → (Nat → Nat → Int32) → Int32 × (Nat → Nat → Int32)
  | 0, k, m => (x_reachXC m b w v x r o)
  | n + 1, k, m => (bif zc1 .eq ((o.toUInt32 >>> (((Int32.ofNat k)).toUInt32 &&& Int32.toUInt32 31)).toInt32 &&& (Int32.ofNat 1)) then (xl_reachXL b w v x r o n5 n ((k + 1)) m) else (xl_reachXL b w v x r o n5 n ((k + 1)) ((x_fall m b k 0).2)))
theorem xw_reachXL {σ : Nat → Nat × (Nat → Int32)} {yy : (Nat → Nat → Int64) × Bool × Nat × Nat} {b : Nat} {w : Nat} {v : Int32} {x : Int32} {r : Int32} {o : Int32} {n5 : Nat} {d : Nat} (hd : 3 ≤ d + 1) (hb : BB b) (hw : w < 32) (hn4 : n5 ≤ 4) : ∀ (n : Nat) (k : Nat) (m : Nat → Nat → Int32), k + n = n5 → CG m b → m b 5 = Int32.ofNat n5 → zEv σ (d + 1) 620 116 [some (.ref b), some (.int (-1)), some (.int (Int32.ofNat w)), some (.int v), some (.int x), some (.int r), some (.int (Int32.ofNat 0)), some (.int o), some (.int (Int32.ofNat k))] [] (zS1, m, yy) (.inl (some (.int (xl_reachXL b w v x r o n5 n k m).1))) (zS1, ((xl_reachXL b w v x r o n5 n k m).2), yy) := by
  intro n
  induction n with
  | zero =>
    intro k m hk hc h5
    refine zeP rfl rfl ?_
    refine zeP rfl rfl ?_
    refine zeGI rfl rfl (shM hb) rfl rfl ?_
    rw [h5]
    refine zeT2 rfl rfl (zcge (by omega) (by omega) (by omega)) ?_
    simp only [xl_reachXL, cond_true, cond_false]
    exact xp_reachXC (b := b) (w := w) (v := v) (x := x) (r := r) (o := o) (x8 := some (.int (Int32.ofNat k))) (m := m) (by omega) hb hw
  | succ n ih =>
    intro k m hk hc h5
    refine zeP rfl rfl ?_
    refine zeP rfl rfl ?_
    refine zeGI rfl rfl (shM hb) rfl rfl ?_
    rw [h5]
    refine zeF2 rfl rfl (zcge_f (by omega) (by omega) (by omega)) ?_
    refine zeP rfl rfl ?_
    refine zeP rfl rfl ?_
    refine zeP rfl rfl ?_
    refine zeKn (c := 1) rfl rfl rfl ?_
    refine zeP rfl rfl ?_
    refine zeB1 rfl rfl (fun h1 => ?_) (fun h1 => ?_)
    · refine zeInc rfl rfl ?_
      refine zeP rfl rfl ?_
      simp only [xl_reachXL, h1, cond_true, cond_false]
      exact ih ((k + 1))  m (by omega) (by first | exact hc | exact hc.fall (by omega) (by omega)) (by first | exact h5 | (rw [fall_c5 hc (by omega) (by omega)]; exact h5))
    · refine zeP rfl rfl ?_
      refine zeP rfl rfl ?_
      refine zeKn (c := 0) rfl rfl rfl ?_
      refine zeCV rfl rfl rfl rfl (shM hb) rfl (xc_fall (m := m) (b := b) (t := k) (y := 0) hb (by omega) (by omega) (hc.l (by omega)) (hc.l4 (by omega)) hc.n hc.n60) (by omega) ?_
      dsimp only [Option.toList, List.cons_append, List.nil_append]
      refine zeP rfl rfl ?_
      refine zeInc rfl rfl ?_
      refine zeP rfl rfl ?_
      simp only [xl_reachXL, h1, cond_true, cond_false]
      exact ih ((k + 1))  ((x_fall m b k 0).2) (by omega) (by first | exact hc | exact hc.fall (by omega) (by omega)) (by first | exact h5 | (rw [fall_c5 hc (by omega) (by omega)]; exact h5))
noncomputable def x_reachX (m : Nat → Nat → Int32) (b : Nat) (w : Nat) (v : Int32) : Int32 × (Nat → Nat → Int32) := (bif zc2 .eq v (-1) then (xl_reachXL b w v ((x_blockBit m b ((Int32.ofNat w)))) ((Int32.ofNat 0)) ((x_holders m b ((x_blockBit m b ((Int32.ofNat w)))) ((-1)) ((Int32.ofNat 0)))) ((mv m b 5)) ((mv m b 5)) 0 m) else (xl_reachXL b w v ((x_blockBit m b ((Int32.ofNat w)))) ((Int32.ofNat 1)) ((x_holders m b ((x_blockBit m b ((Int32.ofNat w)))) ((-1)) ((Int32.ofNat 1)))) ((mv m b 5)) ((mv m b 5)) 0 m))
theorem xp_reachX {σ : Nat → Nat × (Nat → Int32)} {yy : (Nat → Nat → Int64) × Bool × Nat × Nat} {m : Nat → Nat → Int32} {b : Nat} {w : Nat} {v : Int32} {d : Nat} (hd : 3 ≤ d + 1) (hb : BB b) (hc : CG m b) (hw : w < 32) : zEv σ (d + 1) 620 0 [some (.ref b), some (.int (-1)), some (.int (Int32.ofNat w)), some (.int v), none, none, none, none, none] [] (zS1, m, yy) (.inl (some (.int (x_reachX m b w v).1))) (zS1, ((x_reachX m b w v).2), yy) := by
  refine zeP rfl rfl ?_
  refine zeP rfl rfl ?_
  refine zeCV rfl rfl rfl rfl (shM hb) rfl (xc_blockBit (m := m) (b := b) (w := (Int32.ofNat w)) hb) (by omega) ?_
  dsimp only [Option.toList, List.cons_append, List.nil_append]
  refine zeP rfl rfl ?_
  refine zeP rfl rfl ?_
  refine zeK (v := -1) rfl rfl rfl ?_
  refine zeB2 rfl rfl (fun h1 => ?_) (fun h1 => ?_)
  · refine zeKn (c := 0) rfl rfl rfl ?_
    refine zeP rfl rfl ?_
    refine zeP rfl rfl ?_
    refine zeP rfl rfl ?_
    refine zeCV rfl rfl rfl rfl (shM hb) rfl (xc_isGuessingX (m := m) (b := b) hb) (by omega) ?_
    dsimp only [Option.toList, List.cons_append, List.nil_append]
    refine zeP rfl rfl ?_
    refine zeP rfl rfl ?_
    refine zeT1 rfl rfl (show zc1 .eq (Int32.ofNat 0) = true by decide) ?_
    refine zeP rfl rfl ?_
    refine zeP rfl rfl ?_
    refine zeP rfl rfl ?_
    refine zeP rfl rfl ?_
    refine zeCV rfl rfl rfl rfl (shM hb) rfl (xc_holders (m := m) (b := b) (x := (x_blockBit m b ((Int32.ofNat w)))) (u := (-1)) (w := (Int32.ofNat 0)) hb hc) (by omega) ?_
    dsimp only [Option.toList, List.cons_append, List.nil_append]
    refine zeP rfl rfl ?_
    refine zeP rfl rfl ?_
    refine zeT1 rfl rfl (show zc1 .eq (Int32.ofNat 0) = true by decide) ?_
    refine zeKn (c := 0) rfl rfl rfl ?_
    refine zeP rfl rfl ?_
    simp only [x_reachX, h1, cond_true, cond_false]
    exact xw_reachXL (b := b) (w := w) (v := v) (x := (x_blockBit m b ((Int32.ofNat w)))) (r := (Int32.ofNat 0)) (o := (x_holders m b ((x_blockBit m b ((Int32.ofNat w)))) ((-1)) ((Int32.ofNat 0)))) (n5 := (mv m b 5)) (by omega) hb hw hc.c4 ((mv m b 5)) (0)  m (by omega) hc hc.c
  · refine zeKn (c := 1) rfl rfl rfl ?_
    refine zeP rfl rfl ?_
    refine zeP rfl rfl ?_
    refine zeP rfl rfl ?_
    refine zeP rfl rfl ?_
    refine zeCV rfl rfl rfl rfl (shM hb) rfl (xc_isGuessingX (m := m) (b := b) hb) (by omega) ?_
    dsimp only [Option.toList, List.cons_append, List.nil_append]
    refine zeP rfl rfl ?_
    refine zeP rfl rfl ?_
    refine zeT1 rfl rfl (show zc1 .eq (Int32.ofNat 0) = true by decide) ?_
    refine zeP rfl rfl ?_
    refine zeP rfl rfl ?_
    refine zeP rfl rfl ?_
    refine zeP rfl rfl ?_
    refine zeCV rfl rfl rfl rfl (shM hb) rfl (xc_holders (m := m) (b := b) (x := (x_blockBit m b ((Int32.ofNat w)))) (u := (-1)) (w := (Int32.ofNat 1)) hb hc) (by omega) ?_
    dsimp only [Option.toList, List.cons_append, List.nil_append]
    refine zeP rfl rfl ?_
    refine zeP rfl rfl ?_
    refine zeT1 rfl rfl (show zc1 .eq (Int32.ofNat 0) = true by decide) ?_
    refine zeKn (c := 0) rfl rfl rfl ?_
    refine zeP rfl rfl ?_
    simp only [x_reachX, h1, cond_true, cond_false]
    exact xw_reachXL (b := b) (w := w) (v := v) (x := (x_blockBit m b ((Int32.ofNat w)))) (r := (Int32.ofNat 1)) (o := (x_holders m b ((x_blockBit m b ((Int32.ofNat w)))) ((-1)) ((Int32.ofNat 1)))) (n5 := (mv m b 5)) (by omega) hb hw hc.c4 ((mv m b 5)) (0)  m (by omega) hc hc.c
theorem xc_reachX {σ : Nat → Nat × (Nat → Int32)} {yy : (Nat → Nat → Int64) × Bool × Nat × Nat} {m : Nat → Nat → Int32} {b : Nat} {w : Nat} {v : Int32} (hb : BB b) (hc : CG m b) (hw : w < 32) : zF σ 3 620 [.ref b, .int (-1), .int (Int32.ofNat w), .int v] (zS1, m, yy) (.inl (some (.int (x_reachX m b w v).1))) (zS1, ((x_reachX m b w v).2), yy) := by
  intro d hd
  obtain ⟨d, rfl⟩ : ∃ k, d = k + 1 := ⟨d - 1, by omega⟩
  exact xp_reachX hd hb hc hw
end
section
/-! a step in the machine at b leaves all that lies outside alone -/
noncomputable def FB (m : Nat → Nat → Int32) (b : Nat) (P : Nat → Nat → Int32) : Prop := ∀ i l, i < b ∨ b + 42 ≤ i → m i l = P i l
section ZFB
variable {m m' : Nat → Nat → Int32} {b t l w : Nat} {P : Nat → Nat → Int32}
theorem FB.refl : FB m b m := fun _ _ _ => rfl
theorem FB.tr {P2 : Nat → Nat → Int32} (h : FB m b P) (h2 : FB P b P2) : FB m b P2 := fun i l hi => (h i l hi).trans (h2 i l hi)
theorem FB.put {a k : Nat} (h : FB m b P) (x : Int32) (hf : b ≤ a ∧ a < b + 42) : FB (zm2 m a k x) b P := fun i l hi => (zx_ne _ _ _ (by omega)).trans (h i l hi)
theorem FB.logAdd (h : FB m b P) (t u w v : Int32) : FB (x_logAdd m b t u w v) b P := fun i l hi => (logAdd_ne (by omega) (by omega)).trans (h i l hi)
theorem FB.close (h : FB m b P) (ht : t < 4) : FB (x_close m b t) b P := fun i l hi => (close_ne (by omega)).trans (h i l hi)
theorem FB.lose {x : Int32} (h : FB m b P) (hl : l < 4) : FB (x_lose m b l x) b P := by
  unfold x_lose
  exact cndi (fun q : Nat → Nat → Int32 => FB q b P) (h.put _ ⟨by omega, by omega⟩) (h.put _ ⟨by omega, by omega⟩)
theorem FB.gain {x : Int32} (h : FB m b P) (hl : l < 4) : FB (x_gain m b l x) b P := by
  unfold x_gain
  exact cndi (fun q : Nat → Nat → Int32 => FB q b P) (h.put _ ⟨by omega, by omega⟩) (h.put _ ⟨by omega, by omega⟩)
theorem FB.fall {y : Nat} (h : FB m b P) (hc : CG m b) (ht : t < 4) : FB (x_fall m b t y).2 b P := by
  have hl := hc.l4 ht
  unfold x_fall
  dsimp only
  refine FB.logAdd ?_ _ _ _ _
  refine FB.close ?_ ht
  refine FB.lose ?_ hl
  exact ((((h.put _ ⟨by omega, by omega⟩).put _ ⟨by omega, by omega⟩).put _ ⟨by omega, by omega⟩).put _ ⟨by omega, by omega⟩).put _ ⟨by omega, by omega⟩
theorem FB.gwrite {v x : Int32} (h : FB m b P) (ht : t < 4) : FB (x_gwrite m b t w v x) b P := by
  unfold x_gwrite
  exact ((h.put _ ⟨by omega, by omega⟩).put _ ⟨by omega, by omega⟩).put _ ⟨by omega, by omega⟩
theorem FB.reachC {v x r g o : Int32} (h : FB m b P) (ht : t < 4) : FB (x_reachC m b t w v x r g o).2 b P := by
  unfold x_reachC
  exact cndi (fun q : QM => FB q.2 b P) (cndi (fun q : QM => FB q.2 b P) h (h.put _ ⟨by omega, by omega⟩)) (cndi (fun q : QM => FB q.2 b P) (h.put _ ⟨by omega, by omega⟩) (h.gwrite ht))
theorem reachL_fb {n5 : Nat} {v x r g o : Int32} (ht : t < 4) (hn : n5 ≤ 4) : ∀ (n k : Nat) (m : Nat → Nat → Int32), k + n = n5 → CG m b → FB m b P → FB (xl_reachL b t w v x r g o n5 n k m).2 b P := by
  intro n
  induction n with
  | zero => intro k m hk _ h; exact h.reachC ht
  | succ n ih =>
    intro k m hk hc h
    rw [xl_reachL]
    exact cndi (fun q : QM => FB q.2 b P) (ih _ _ (by omega) hc h) (ih _ _ (by omega) (hc.fall (by omega) (by omega)) (h.fall hc (by omega)))
theorem FB.reachB {v x r g : Int32} (h : FB m b P) (hc : CG m b) (ht : t < 4) : FB (x_reachB m b t w v x r g).2 b P := by
  unfold x_reachB
  have a := reachL_fb (P := P) (b := b) (w := w) (v := v) (x := x) (r := r) (g := g) (o := x_holders m b x (Int32.ofNat t) r) ht hc.c4 (mv m b 5) 0 m (by omega) hc h
  have f := h.fall (y := 0) hc ht
  generalize xl_reachL b t w v x r g (x_holders m b x (Int32.ofNat t) r) (mv m b 5) (mv m b 5) 0 m = c at a ⊢
  generalize x_fall m b t 0 = cf at f ⊢
  exact cndi (fun q : QM => FB q.2 b P) a (cndi (fun q : QM => FB q.2 b P) a (cndi (fun q : QM => FB q.2 b P) a f))
theorem FB.reach {v : Int32} (h : FB m b P) (hc : CG m b) (ht : t < 4) : FB (x_reach m b t w v).2 b P := by
  unfold x_reach
  have f := h.fall (y := 1) hc ht
  generalize x_fall m b t 1 = cf at f ⊢
  exact cndi (fun q : QM => FB q.2 b P) (cndi (fun q : QM => FB q.2 b P) (h.reachB hc ht) (h.reachB hc ht)) (cndi (fun q : QM => FB q.2 b P) (h.reachB hc ht) (cndi (fun q : QM => FB q.2 b P) (h.reachB hc ht) f))
theorem FB.leaveOut {l : Int32} (h : FB m b P) (ht : t < 4) : FB (x_leaveOut m b t l) b P := by
  unfold x_leaveOut
  exact cndi (fun q : Nat → Nat → Int32 => FB q b P) h ((h.put _ ⟨by omega, by omega⟩).put _ ⟨by omega, by omega⟩)
theorem FB.begin {x y z : Int32} (h : FB m b P) (ht : t < 4) : FB (x_begin m b t x y z) b P := by
  unfold x_begin
  exact (((h.put _ ⟨by omega, by omega⟩).put _ ⟨by omega, by omega⟩).put _ ⟨by omega, by omega⟩).put _ ⟨by omega, by omega⟩
theorem keepL_fb (ht : t < 4) (hl : l < 4) : ∀ (n k : Nat) (m : Nat → Nat → Int32), FB m b P → FB (xl_keep b t l n k m) b P := by
  intro n
  induction n with
  | zero =>
    intro k m h
    rw [xl_keep]
    exact FB.logAdd (((((h.close ht).put _ ⟨by omega, by omega⟩).put _ ⟨by omega, by omega⟩).gain hl).put _ ⟨by omega, by omega⟩) _ _ _ _
  | succ n ih =>
    intro k m h
    rw [xl_keep]
    exact ih _ _ (h.put _ ⟨by omega, by omega⟩)
theorem FB.keep (h : FB m b P) (ht : t < 4) (hl : l < 4) : FB (x_keep m b t l) b P := keepL_fb ht hl _ _ _ h
theorem FB.takePB (h : FB m b P) (hc : CG m b) (ht : t < 4) (hl : l < 4) : FB (x_takePB m b t l).2 b P := by
  unfold x_takePB
  have ar := h.reach (w := mv m (b + 5 + l) 0) (v := Int32.ofNat 1) hc ht
  have hb : ∀ y z, FB (x_begin m b t (m (b + 10 + 7 * t) 3) y z) b P := fun y z => h.begin ht
  generalize x_reach m b t (mv m (b + 5 + l) 0) (Int32.ofNat 1) = c at ar ⊢
  generalize m (b + 10 + 7 * t) 3 = A at hb ⊢
  have a1 : FB (zm2 (zm2 c.2 (b + 10 + 7 * t) 5 (Int32.ofNat 0)) (b + 5 + l) 2 (zm2 c.2 (b + 10 + 7 * t) 5 (Int32.ofNat 0) (b + 5 + l) 2 + Int32.ofNat 1)) b P := (ar.put _ ⟨by omega, by omega⟩).put _ ⟨by omega, by omega⟩
  generalize zm2 (zm2 c.2 (b + 10 + 7 * t) 5 (Int32.ofNat 0)) (b + 5 + l) 2 (zm2 c.2 (b + 10 + 7 * t) 5 (Int32.ofNat 0) (b + 5 + l) 2 + Int32.ofNat 1) = m1 at a1 ⊢
  have a2 : ∀ x y z u : Int32, FB (x_logAdd m1 b x y z u) b P := fun x y z u => a1.logAdd _ _ _ _
  have a3 : ∀ x y z u w : Int32, FB (x_logAdd (x_gain m1 b l w) b x y z u) b P := fun x y z u w => (a1.gain hl).logAdd _ _ _ _
  have a4 : ∀ y z u v p q r : Int32, FB (x_logAdd (zm2 (x_leaveOut (x_begin m b t A y z) b t (Int32.ofNat l)) (b + 14 + 7 * t) 6 u) b v p q r) b P := fun y z u v p q r => FB.logAdd (((hb y z).leaveOut ht).put _ ⟨by omega, by omega⟩) _ _ _ _
  exact cndi (fun q : QM => FB q.2 b P) (cndi (fun q : QM => FB q.2 b P) (cndi (fun q : QM => FB q.2 b P) (a2 _ _ _ _) (a3 _ _ _ _ _)) (cndi (fun q : QM => FB q.2 b P) (cndi (fun q : QM => FB q.2 b P) (a2 _ _ _ _) (a3 _ _ _ _ _)) (a4 _ _ _ _ _ _ _))) h
theorem FB.takePlainly (h : FB m b P) (hc : CG m b) (ht : t < 4) (hl : l < 4) : FB (x_takePlainly m b t l).2 b P := (h.reach hc ht).takePB (hc.reach ht) ht hl
theorem FB.takeGB (h : FB m b P) (hc : CG m b) (ht : t < 4) : FB (x_takeGB m b t l w).2 b P := by
  unfold x_takeGB
  have ar := h.reach (w := w) (v := Int32.ofNat 1) hc ht
  have f4 := h.fall (y := 4) hc ht
  have f2 := h.fall (y := 2) hc ht
  generalize x_reach m b t w (Int32.ofNat 1) = c at ar ⊢
  generalize x_fall m b t 4 = c4 at f4 ⊢
  generalize x_fall m b t 2 = c2 at f2 ⊢
  exact cndi (fun q : QM => FB q.2 b P) (cndi (fun q : QM => FB q.2 b P) (cndi (fun q : QM => FB q.2 b P) ar (h.leaveOut ht)) f4) f2
theorem FB.takeGuessing (h : FB m b P) (hc : CG m b) (ht : t < 4) : FB (x_takeGuessing m b t l).2 b P := by
  unfold x_takeGuessing
  have ar := h.reach (w := mv m (b + 5 + l) 0) (v := -1) hc ht
  have cr := hc.reach (w := mv m (b + 5 + l) 0) (v := -1) ht
  generalize x_reach m b t (mv m (b + 5 + l) 0) (-1) = c at ar cr ⊢
  exact cndi (fun q : QM => FB q.2 b P) (ar.takeGB cr ht) ar
theorem FB.getWord (h : FB m b P) (hc : CG m b) (ht : t < 4) : FB (x_getWord m b t w).2 b P := by
  unfold x_getWord
  have ar := h.reach (w := w) (v := -1) hc ht
  generalize x_reach m b t w (-1) = c at ar ⊢
  exact cndi (fun q : QM => FB q.2 b P) ar (ar.put _ ⟨by omega, by omega⟩)
theorem FB.dropLock (h : FB m b P) (hc : CG m b) (ht : t < 4) (hl : l < 4) : FB (x_dropLock m b t l).2 b P := by
  unfold x_dropLock
  have ar := h.reach (w := mv m (b + 5 + l) 0) (v := Int32.ofNat 0) hc ht
  have f2 := h.fall (y := 2) hc ht
  have hs : ∀ x, FB (zm2 m (b + 14 + 7 * t) 5 x) b P := fun x => h.put _ ⟨by omega, by omega⟩
  generalize x_reach m b t (mv m (b + 5 + l) 0) (Int32.ofNat 0) = c at ar ⊢
  generalize x_fall m b t 2 = c2 at f2 ⊢
  have al : ∀ x y z u : Int32, FB (x_logAdd c.2 b x y z u) b P := fun x y z u => ar.logAdd _ _ _ _
  exact cndi (fun q : QM => FB q.2 b P) (cndi (fun q : QM => FB q.2 b P) ar (cndi (fun q : QM => FB q.2 b P) ar (al _ _ _ _))) (cndi (fun q : QM => FB q.2 b P) (cndi (fun q : QM => FB q.2 b P) ar (cndi (fun q : QM => FB q.2 b P) ar (al _ _ _ _))) (cndi (fun q : QM => FB q.2 b P) (cndi (fun q : QM => FB q.2 b P) (hs _) ((hs _).keep ht hl)) f2))
theorem FB.goOnWorking {n : Int32} (h : FB m b P) (ht : t < 4) : FB (x_goOnWorking m b t n).2 b P := by
  unfold x_goOnWorking
  exact cndi (fun q : QM => FB q.2 b P) (h.put _ ⟨by omega, by omega⟩) (h.put _ ⟨by omega, by omega⟩)
theorem FB.putOut (h : FB m b P) (hc : CG m b) (ht : t < 4) : FB (x_putOut m b t).2 b P := by
  unfold x_putOut
  have f3 := h.fall (y := 3) hc ht
  generalize x_fall m b t 3 = c3 at f3 ⊢
  exact cndi (fun q : QM => FB q.2 b P) (cndi (fun q : QM => FB q.2 b P) (h.logAdd _ _ _ _) (FB.logAdd (((h.put _ ⟨by omega, by omega⟩).put _ ⟨by omega, by omega⟩).put _ ⟨by omega, by omega⟩) _ _ _ _)) f3
theorem FB.moveOn (h : FB m b P) (hc : CG m b) (ht : t < 4) : FB (x_moveOn m b t).2 b P := by
  unfold x_moveOn
  have c1 : CG (zm2 (zm2 m (b + 10 + 7 * t) 3 (m (b + 10 + 7 * t) 3 + Int32.ofNat 1)) (b + 10 + 7 * t) 7 (Int32.ofNat 0)) b := (hc.put _ (ncS ht)).put _ (ncS ht)
  have h1 : FB (zm2 (zm2 m (b + 10 + 7 * t) 3 (m (b + 10 + 7 * t) 3 + Int32.ofNat 1)) (b + 10 + 7 * t) 7 (Int32.ofNat 0)) b P := (h.put _ ⟨by omega, by omega⟩).put _ ⟨by omega, by omega⟩
  generalize zm2 (zm2 m (b + 10 + 7 * t) 3 (m (b + 10 + 7 * t) 3 + Int32.ofNat 1)) (b + 10 + 7 * t) 7 (Int32.ofNat 0) = m1 at h1 c1 ⊢
  exact cndi (fun q : QM => FB q.2 b P) (cndi (fun q : QM => FB q.2 b P) (h1.logAdd _ _ _ _) (h1.fall c1 ht)) h1
theorem FB.stepE {r : Int32} (h : FB m b P) (hc : CG m b) (ht : t < 4) : FB (x_stepE m b t r).2 b P := by
  unfold x_stepE
  have a := h.moveOn hc ht
  generalize x_moveOn m b t = c at a ⊢
  exact cndi (fun q : QM => FB q.2 b P) ((h.put _ ⟨by omega, by omega⟩).put _ ⟨by omega, by omega⟩) ((a.put _ ⟨by omega, by omega⟩).put _ ⟨by omega, by omega⟩)
theorem FB.takeStep (h : FB m b P) (hc : CG m b) (hk : KX m b (fun u => u = t)) (ht : t < 4) : FB (x_takeStep m b t).2 b P := by
  have hD := hk.1 t ht
  have hA24 : mv m (b + 10 + 7 * t) 3 < 24 := hk.2.2 t ht rfl
  obtain ⟨k1, k2, k3, k4⟩ := hD.2.2.2.2 _ hA24
  unfold x_takeStep
  generalize hK : mv m (b + 11 + 7 * t) (mv m (b + 10 + 7 * t) 3) = K at k3 k4
  have hK7 : K ≤ 7 := by rw [← hK]; exact k1.2
  match K, hK7, k3, k4 with
  | 0, _, k3, _ =>
    have := k3 (by omega)
    show FB (x_takeStep0 m b t).2 b P
    unfold x_takeStep0
    exact cndi (fun q : QM => FB q.2 b P) ((h.takePlainly hc ht (by omega)).stepE (hc.takePlainly ht (by omega)) ht) ((h.takeGuessing hc ht).stepE (hc.takeGuessing ht (by omega)) ht)
  | 1, _, k3, _ =>
    have := k3 (by omega)
    exact (h.dropLock hc ht (by omega)).stepE (hc.dropLock ht (by omega)) ht
  | 2, _, _, _ => exact (h.getWord hc ht).stepE (hc.getWord ht) ht
  | 3, _, _, _ => exact (h.reach hc ht).stepE (hc.reach ht) ht
  | 4, _, _, _ => exact (h.put _ ⟨by omega, by omega⟩).stepE (hc.put _ (ncS ht)) ht
  | 5, _, _, _ => exact (h.put _ ⟨by omega, by omega⟩).stepE (hc.put _ (ncS ht)) ht
  | 6, _, _, _ =>
    refine (h.goOnWorking ht).stepE ?_ ht
    unfold x_goOnWorking
    exact cndi (fun q : QM => CG q.2 b) (hc.put _ (ncS ht)) (hc.put _ (ncS ht))
  | 7, _, _, _ => exact (h.putOut hc ht).stepE (hc.putOut ht) ht
  | k + 8, h8, _, _ => exact absurd h8 (by omega)
theorem FB.reachXC {v x r o : Int32} (h : FB m b P) : FB (x_reachXC m b w v x r o).2 b P := by
  unfold x_reachXC
  exact cndi (fun q : QM => FB q.2 b P) h (h.put _ ⟨by omega, by omega⟩)
theorem KX.reachXC {Q : Nat → Prop} {v x r o : Int32} (h : KX m b Q) : KX (x_reachXC m b w v x r o).2 b Q := by
  unfold x_reachXC
  exact cndi (fun q : QM => KX q.2 b Q) h (h.put _ (ndX (by omega) (by omega)))
theorem CG.reachXC {v x r o : Int32} (h : CG m b) : CG (x_reachXC m b w v x r o).2 b := by
  unfold x_reachXC
  exact cndi (fun q : QM => CG q.2 b) h (h.put _ ncW)
theorem reachXL_ok {Q : Nat → Prop} {n5 : Nat} {v x r o : Int32} (hn : n5 ≤ 4) : ∀ (n k : Nat) (m : Nat → Nat → Int32), k + n = n5 → CG m b → KX m b Q → FB m b P → CG (xl_reachXL b w v x r o n5 n k m).2 b ∧ KX (xl_reachXL b w v x r o n5 n k m).2 b Q ∧ FB (xl_reachXL b w v x r o n5 n k m).2 b P := by
  intro n
  induction n with
  | zero => intro k m hk hc h f; exact ⟨hc.reachXC, h.reachXC, f.reachXC⟩
  | succ n ih =>
    intro k m hk hc h f
    rw [xl_reachXL]
    exact cndi (fun q : QM => CG q.2 b ∧ KX q.2 b Q ∧ FB q.2 b P) (ih _ _ (by omega) hc h f) (ih _ _ (by omega) (hc.fall (by omega) (by omega)) (h.fall hc (by omega)) (f.fall hc (by omega)))
theorem reachX_ok {Q : Nat → Prop} {v : Int32} (hc : CG m b) (h : KX m b Q) (f : FB m b P) : CG (x_reachX m b w v).2 b ∧ KX (x_reachX m b w v).2 b Q ∧ FB (x_reachX m b w v).2 b P := by
  unfold x_reachX
  exact cndi (fun q : QM => CG q.2 b ∧ KX q.2 b Q ∧ FB q.2 b P) (reachXL_ok hc.c4 _ _ _ (by omega) hc h f) (reachXL_ok hc.c4 _ _ _ (by omega) hc h f)
/-- a thread that is not done has a deed to do -/
theorem KX.run (h : KX m b P0) (ht : t < 4) (hd : x_sDone m b t = 0) : KX m b (fun u => u = t) := by
  refine ⟨h.1, h.2.1, fun u hu e => ?_⟩
  subst e
  obtain ⟨d2, d3, _⟩ := h.1 u hu
  unfold x_sDone at hd
  cases hz : zc2 .lt (m (b + 10 + 7 * u) 3) (m (b + 10 + 7 * u) 2) with
  | true =>
    rw [d3.1, d2.1] at hz
    have := zlt_t (by have := d3.2; omega) (by have := d2.2; omega) hz
    have := d2.2
    omega
  | false =>
    rw [hz] at hd
    exact absurd hd (by dsimp only [cond_false]; decide)
theorem c1ne0 {x : Int32} (h : zc1 .ne x = false) : x = 0 := Classical.byContradiction (fun q => of_decide_eq_false h q)
theorem ntL {N : Nat} (h4 : mv m b 5 ≤ 4) (hN : N = mv m b 5) : ∀ (n k : Nat), 1 ≤ k → k + n = N + 1 → xl_nextByTurn m b n k = -1 ∨ ∃ t, t < 4 ∧ xl_nextByTurn m b n k = Int32.ofNat t ∧ x_sDone m b t = 0 := by
  intro n
  induction n with
  | zero => intro k _ _; exact Or.inl rfl
  | succ n ih =>
    intro k h1 hk
    rw [xl_nextByTurn]
    have hm : (ltc m b + (k - 1)) % mv m b 5 < mv m b 5 := Nat.mod_lt _ (by omega)
    exact cnd4 (fun X : Int32 => X = -1 ∨ ∃ t, t < 4 ∧ X = Int32.ofNat t ∧ x_sDone m b t = 0) (fun _ => ih _ (by omega) (by omega)) (fun e => Or.inr ⟨_, by omega, rfl, c1ne0 e⟩)
theorem ndL2 : ∀ (n : Nat) (a : Int32) (k : Nat), k + n ≤ 4 → xl_nextByDraw m b n a k = -1 ∨ ∃ t, t < 4 ∧ xl_nextByDraw m b n a k = Int32.ofNat t ∧ x_sDone m b t = 0 := by
  intro n
  induction n with
  | zero => intro a k _; exact Or.inl rfl
  | succ n ih =>
    intro a k hk
    rw [xl_nextByDraw]
    exact cnd4 (fun X : Int32 => X = -1 ∨ ∃ t, t < 4 ∧ X = Int32.ofNat t ∧ x_sDone m b t = 0) (fun _ => ih _ _ (by omega)) (fun e => cnd4 (fun X : Int32 => X = -1 ∨ ∃ t, t < 4 ∧ X = Int32.ofNat t ∧ x_sDone m b t = 0) (fun _ => ih _ _ (by omega)) (fun _ => Or.inr ⟨k, by omega, rfl, c1ne0 e⟩))
/-- whose turn it is: a number of a thread that has a deed -/
noncomputable def NX (m : Nat → Nat → Int32) (b : Nat) (X : Int32) : Prop := X = Int32.ofNat X.toNatClampNeg ∧ X.toNatClampNeg < 4 ∧ x_sDone m b X.toNatClampNeg = 0
theorem NX.mk {X : Int32} (h : X = -1 ∨ ∃ t, t < 4 ∧ X = Int32.ofNat t ∧ x_sDone m b t = 0) (hne : X ≠ -1) : NX m b X := by
  rcases h with h | ⟨t, ht, e, hd⟩
  · exact absurd h hne
  · subst e
    unfold NX
    rw [nv_on (by omega)]
    exact ⟨rfl, ht, hd⟩
theorem ne1_of {X : Int32} (h : zc2 .ne X (-1) = true) : X ≠ -1 := of_decide_eq_true h
theorem ne1_of2 {X : Int32} (h : zc2 .eq X (-1) = false) : X ≠ -1 := of_decide_eq_false h
theorem nt_ok (hc : CG m b) (h : x_nextByTurn m b ≠ -1) : NX m b (x_nextByTurn m b) := NX.mk (ntL hc.c4 rfl _ _ (by omega) (by omega)) h
theorem draw_ok {x : Int32} {Q : Nat → Prop} (hk : KX m b Q) (hf : FB m b P) : KX (x_draw m b x).2 b Q ∧ FB (x_draw m b x).2 b P := by
  unfold x_draw
  exact cndi (fun q : QM => KX q.2 b Q ∧ FB q.2 b P) ⟨hk.put _ (ndM (by omega)), hf.put _ ⟨by omega, by omega⟩⟩ ⟨hk.put _ (ndM (by omega)), hf.put _ ⟨by omega, by omega⟩⟩
theorem nd_ok {Q : Nat → Prop} (hc : CG m b) (hk : KX m b Q) (hf : FB m b P) : CG (x_nextByDraw m b).2 b ∧ KX (x_nextByDraw m b).2 b Q ∧ FB (x_nextByDraw m b).2 b P ∧ ((x_nextByDraw m b).1 ≠ -1 → NX (x_nextByDraw m b).2 b (x_nextByDraw m b).1) := by
  unfold x_nextByDraw
  have a := hc.draw (x := m b 5 - x_bitCount (x_doneBits m b))
  have c := draw_ok (x := m b 5 - x_bitCount (x_doneBits m b)) hk hf
  refine cndi (fun q : QM => CG q.2 b ∧ KX q.2 b Q ∧ FB q.2 b P ∧ (q.1 ≠ -1 → NX q.2 b q.1)) ⟨a, c.1, c.2, fun hne => NX.mk (ndL2 _ _ _ (by have := a.c4; omega)) hne⟩ ⟨hc, hk, hf, fun hne => absurd rfl hne⟩
end ZFB

section ZFC
variable {m m' : Nat → Nat → Int32} {b t : Nat} {P : Nat → Nat → Int32} {Q : Nat → Prop}
theorem takeStep_kc (hb : BB b) (hc : CG m b) (h : KX m b (fun u => u = t)) (ht : t < 4) : KX (x_takeStep m b t).2 b P0 ∧ CG (x_takeStep m b t).2 b := (xc_takeStep (σ := fun _ => (0, fun _ => 0)) (yy := (fun _ _ => 0, true, 0, 0)) hb hc h ht).2
theorem CG.far {a k : Nat} {x : Int32} (h : CG m b) (ha : a < b ∨ b + 42 ≤ a) : CG (zm2 m a k x) b := h.same (fun i l hi => zx_ne _ _ _ (by
  intro e
  subst e
  rcases hi with ⟨e, _⟩ | ⟨e, _⟩ | ⟨t, ht, ⟨e, _⟩ | e⟩ | ⟨l, hl, e, _⟩ <;> omega))
theorem CG.fb {c : Nat} (h : CG P b) (hf : FB m c P) (hbc : b + 42 ≤ c ∨ c + 42 ≤ b) : CG m b := h.same (fun i l hi => hf i l (by
  rcases hi with ⟨e, _⟩ | ⟨e, _⟩ | ⟨t, ht, ⟨e, _⟩ | e⟩ | ⟨l, hl, e, _⟩ <;> omega))
theorem KX.far {a k : Nat} {x : Int32} (h : KX m b Q) (ha : a < b ∨ b + 42 ≤ a) : KX (zm2 m a k x) b Q := h.same (fun i l hi => zx_ne _ _ _ (by
  intro e
  subst e
  rcases hi with ⟨e, _⟩ | ⟨t, ht, ⟨e, _⟩ | ⟨e, _⟩ | e | e⟩ <;> omega))
theorem KX.fb {c : Nat} (h : KX P b Q) (hf : FB m c P) (hbc : b + 42 ≤ c ∨ c + 42 ≤ b) : KX m b Q := h.same (fun i l hi => hf i l (by
  rcases hi with ⟨e, _⟩ | ⟨t, ht, ⟨e, _⟩ | ⟨e, _⟩ | e | e⟩ <;> omega))
theorem FB.copy {c : Nat} (hbc : b + 42 ≤ c ∨ c + 42 ≤ b) (hc : CG m c) (h : FB m b P) : FB (x_copyFrom m b c) b P := fun i l hi => ((copy_all hbc hc.c hc.c4).1 i l (by omega)).trans (h i l hi)
theorem zS131 : zS1[131]? = some (4, 0, [2, 133, 134, 135, 136, 137, 0, 0, 0, 0]) := rfl
theorem xc_forget {σ : Nat → Nat × (Nat → Int32)} {yy : (Nat → Nat → Int64) × Bool × Nat × Nat} : zF σ 1 801 [.ref 131] (zS1, m, yy) (.inl none) (zS1, zm2 m 131 8 (Int32.ofNat 0), yy) := by
  intro d hd
  obtain ⟨d, rfl⟩ : ∃ k, d = k + 1 := ⟨d - 1, by omega⟩
  show zEv σ (d + 1) 801 0 [some (.ref 131)] [] _ _ _
  refine zeP rfl rfl ?_
  refine zeKn (c := 0) rfl rfl rfl ?_
  refine zePB rfl rfl zS131 rfl (by decide) ?_
  exact zeRe rfl rfl rfl rfl rfl rfl
end ZFC
end
section
noncomputable def e_touches (m : Nat → Nat → Int32) (t : Int32) (x : Int32) : (Int32 ⊕ Nat) := (bif sOK m t then (bif tOK x then (bif zc1 .ne (Int32.ofNat (x.toNatClampNeg)) then (.inl ((((x_blocksOf3 m 1 (t.toNatClampNeg)) ||| (x_blocksOf0 m 1 (t.toNatClampNeg))) ||| (x_blocksOf1 m 1 (t.toNatClampNeg))))) else (.inl ((((x_blocksOf2 m 1 (t.toNatClampNeg)) ||| (x_blocksOf0 m 1 (t.toNatClampNeg))) ||| (x_blocksOf1 m 1 (t.toNatClampNeg)))))) else (.inr 1)) else (.inr 0))
theorem ec_touches {σ : Nat → Nat × (Nat → Int32)} {yy : (Nat → Nat → Int64) × Bool × Nat × Nat} {m : Nat → Nat → Int32} {t : Int32} {x : Int32} (hC : CG m 1) (hK : KX m 1 P0) : zF σ 3 1626 [.ref 0, .int t, .int x] (zS1, m, yy) (xo (e_touches m t x)) (zS1, m, (xy yy (e_touches m t x))) := by
  intro d hd
  obtain ⟨d, rfl⟩ : ∃ k, d = k + 1 := ⟨d - 1, by omega⟩
  show zEv σ (d + 1) 1626 0 [some (.ref 0), some (.int t), some (.int x), none, none] [] _ _ _
  refine zeP rfl rfl ?_
  refine zeP rfl rfl ?_
  cases h1 : sOK m t with
  | false =>
    exact zeThX rfl rfl rfl rfl rfl rfl (xn_1638 (m := m) (x := t) h1) (by omega) rfl rfl (by simp only [e_touches, h1, cond_true, cond_false] <;> rfl) (by simp only [e_touches, h1, cond_true, cond_false] <;> rfl)
  | true =>
    have c1 := xk_1638 (x := t) hC h1
    refine zeCV rfl rfl rfl rfl zS00 rfl (xo_1638 (m := m) (x := t) h1 hC) (by omega) ?_
    dsimp only [Option.toList, List.cons_append, List.nil_append]
    refine zeP rfl rfl ?_
    have t4 : t.toNatClampNeg < 4 := by have := hC.c4; omega
    refine zeP rfl rfl ?_
    cases h2 : tOK x with
    | false =>
      exact zeThX rfl rfl rfl rfl rfl rfl (xn_1640 (m := m) (x := x) h2) (by omega) rfl rfl (by simp only [e_touches, h1, h2, cond_true, cond_false] <;> rfl) (by simp only [e_touches, h1, h2, cond_true, cond_false] <;> rfl)
    | true =>
      have c2 := xk_1640 (x := x) h2
      refine zeCF rfl rfl rfl rfl rfl rfl (xo_1640 (m := m) (x := x) h2) (by omega) ?_
      dsimp only [Option.toList, List.cons_append, List.nil_append]
      refine zeB1 rfl rfl (fun h3 => ?_) (fun h3 => ?_)
      · refine zeKn (c := 3) rfl rfl rfl ?_
        refine zeP rfl rfl ?_
        refine zeP rfl rfl ?_
        refine zeGR rfl rfl zS00 rfl rfl ?_
        refine zeP rfl rfl ?_
        refine zeP rfl rfl ?_
        refine zeCV rfl rfl rfl rfl (shM bb1) rfl (xc_blocksOf3 (m := m) (b := 1) (t := t.toNatClampNeg) bb1 t4 (hK.1 _ t4)) (by omega) ?_
        dsimp only [Option.toList, List.cons_append, List.nil_append]
        refine zeP rfl rfl ?_
        refine zeGR rfl rfl zS00 rfl rfl ?_
        refine zeP rfl rfl ?_
        refine zeKn (c := 0) rfl rfl rfl ?_
        refine zeCV rfl rfl rfl rfl (shM bb1) rfl (xc_blocksOf0 (m := m) (b := 1) (t := t.toNatClampNeg) bb1 t4 (hK.1 _ t4)) (by omega) ?_
        dsimp only [Option.toList, List.cons_append, List.nil_append]
        refine zeP rfl rfl ?_
        refine zeP rfl rfl ?_
        refine zeGR rfl rfl zS00 rfl rfl ?_
        refine zeP rfl rfl ?_
        refine zeKn (c := 1) rfl rfl rfl ?_
        refine zeCV rfl rfl rfl rfl (shM bb1) rfl (xc_blocksOf1 (m := m) (b := 1) (t := t.toNatClampNeg) bb1 t4 (hK.1 _ t4)) (by omega) ?_
        dsimp only [Option.toList, List.cons_append, List.nil_append]
        refine zeP rfl rfl ?_
        exact zeRe rfl rfl rfl rfl (by simp only [e_touches, h1, h2, h3, cond_true, cond_false] <;> rfl) (by simp only [e_touches, h1, h2, h3, cond_true, cond_false] <;> rfl)
      · refine zeKn (c := 2) rfl rfl rfl ?_
        refine zeP rfl rfl ?_
        refine zeP rfl rfl ?_
        refine zeP rfl rfl ?_
        refine zeGR rfl rfl zS00 rfl rfl ?_
        refine zeP rfl rfl ?_
        refine zeP rfl rfl ?_
        refine zeCV rfl rfl rfl rfl (shM bb1) rfl (xc_blocksOf2 (m := m) (b := 1) (t := t.toNatClampNeg) bb1 t4 (hK.1 _ t4)) (by omega) ?_
        dsimp only [Option.toList, List.cons_append, List.nil_append]
        refine zeP rfl rfl ?_
        refine zeGR rfl rfl zS00 rfl rfl ?_
        refine zeP rfl rfl ?_
        refine zeKn (c := 0) rfl rfl rfl ?_
        refine zeCV rfl rfl rfl rfl (shM bb1) rfl (xc_blocksOf0 (m := m) (b := 1) (t := t.toNatClampNeg) bb1 t4 (hK.1 _ t4)) (by omega) ?_
        dsimp only [Option.toList, List.cons_append, List.nil_append]
        refine zeP rfl rfl ?_
        refine zeP rfl rfl ?_
        refine zeGR rfl rfl zS00 rfl rfl ?_
        refine zeP rfl rfl ?_
        refine zeKn (c := 1) rfl rfl rfl ?_
        refine zeCV rfl rfl rfl rfl (shM bb1) rfl (xc_blocksOf1 (m := m) (b := 1) (t := t.toNatClampNeg) bb1 t4 (hK.1 _ t4)) (by omega) ?_
        dsimp only [Option.toList, List.cons_append, List.nil_append]
        refine zeP rfl rfl ?_
        exact zeRe rfl rfl rfl rfl (by simp only [e_touches, h1, h2, h3, cond_true, cond_false] <;> rfl) (by simp only [e_touches, h1, h2, h3, cond_true, cond_false] <;> rfl)
noncomputable def e_rivals (m : Nat → Nat → Int32) (t : Int32) (u : Int32) : (Int32 ⊕ Nat) := (bif sOK m t then (bif sOK m u then (bif zc2 .ne (Int32.ofNat (t.toNatClampNeg)) (Int32.ofNat (u.toNatClampNeg)) then (.inl ((((x_blocksOf3 m 1 (t.toNatClampNeg)) &&& ((x_blocksOf3 m 1 (u.toNatClampNeg)) ||| (x_blocksOf2 m 1 (u.toNatClampNeg)))) ||| ((x_blocksOf3 m 1 (u.toNatClampNeg)) &&& (x_blocksOf2 m 1 (t.toNatClampNeg)))))) else (.inr 2)) else (.inr 0)) else (.inr 0))
theorem ec_rivals {σ : Nat → Nat × (Nat → Int32)} {yy : (Nat → Nat → Int64) × Bool × Nat × Nat} {m : Nat → Nat → Int32} {t : Int32} {u : Int32} (hC : CG m 1) (hK : KX m 1 P0) : zF σ 3 1627 [.ref 0, .int t, .int u] (zS1, m, yy) (xo (e_rivals m t u)) (zS1, m, (xy yy (e_rivals m t u))) := by
  intro d hd
  obtain ⟨d, rfl⟩ : ∃ k, d = k + 1 := ⟨d - 1, by omega⟩
  show zEv σ (d + 1) 1627 0 [some (.ref 0), some (.int t), some (.int u), none, none, none, none] [] _ _ _
  refine zeP rfl rfl ?_
  refine zeP rfl rfl ?_
  cases h1 : sOK m t with
  | false =>
    exact zeThX rfl rfl rfl rfl rfl rfl (xn_1638 (m := m) (x := t) h1) (by omega) rfl rfl (by simp only [e_rivals, h1, cond_true, cond_false] <;> rfl) (by simp only [e_rivals, h1, cond_true, cond_false] <;> rfl)
  | true =>
    have c1 := xk_1638 (x := t) hC h1
    refine zeCV rfl rfl rfl rfl zS00 rfl (xo_1638 (m := m) (x := t) h1 hC) (by omega) ?_
    dsimp only [Option.toList, List.cons_append, List.nil_append]
    refine zeP rfl rfl ?_
    have t4 : t.toNatClampNeg < 4 := by have := hC.c4; omega
    refine zeP rfl rfl ?_
    refine zeP rfl rfl ?_
    cases h2 : sOK m u with
    | false =>
      exact zeThX rfl rfl rfl rfl rfl rfl (xn_1638 (m := m) (x := u) h2) (by omega) rfl rfl (by simp only [e_rivals, h1, h2, cond_true, cond_false] <;> rfl) (by simp only [e_rivals, h1, h2, cond_true, cond_false] <;> rfl)
    | true =>
      have c2 := xk_1638 (x := u) hC h2
      refine zeCV rfl rfl rfl rfl zS00 rfl (xo_1638 (m := m) (x := u) h2 hC) (by omega) ?_
      dsimp only [Option.toList, List.cons_append, List.nil_append]
      refine zeP rfl rfl ?_
      have u4 : u.toNatClampNeg < 4 := by have := hC.c4; omega
      refine zeKn (c := t.toNatClampNeg) rfl rfl c1.1 ?_
      refine zeKn (c := u.toNatClampNeg) rfl rfl c2.1 ?_
      refine zeB2 rfl rfl (fun h3 => ?_) (fun h3 => ?_)
      · refine zeP rfl rfl ?_
        refine zeGR rfl rfl zS00 rfl rfl ?_
        refine zeP rfl rfl ?_
        refine zeKn (c := 3) rfl rfl rfl ?_
        refine zeCV rfl rfl rfl rfl (shM bb1) rfl (xc_blocksOf3 (m := m) (b := 1) (t := t.toNatClampNeg) bb1 t4 (hK.1 _ t4)) (by omega) ?_
        dsimp only [Option.toList, List.cons_append, List.nil_append]
        refine zeP rfl rfl ?_
        refine zeP rfl rfl ?_
        refine zeGR rfl rfl zS00 rfl rfl ?_
        refine zeP rfl rfl ?_
        refine zeKn (c := 3) rfl rfl rfl ?_
        refine zeCV rfl rfl rfl rfl (shM bb1) rfl (xc_blocksOf3 (m := m) (b := 1) (t := u.toNatClampNeg) bb1 u4 (hK.1 _ u4)) (by omega) ?_
        dsimp only [Option.toList, List.cons_append, List.nil_append]
        refine zeP rfl rfl ?_
        refine zeP rfl rfl ?_
        refine zeP rfl rfl ?_
        refine zeP rfl rfl ?_
        refine zeGR rfl rfl zS00 rfl rfl ?_
        refine zeP rfl rfl ?_
        refine zeKn (c := 2) rfl rfl rfl ?_
        refine zeCV rfl rfl rfl rfl (shM bb1) rfl (xc_blocksOf2 (m := m) (b := 1) (t := u.toNatClampNeg) bb1 u4 (hK.1 _ u4)) (by omega) ?_
        dsimp only [Option.toList, List.cons_append, List.nil_append]
        refine zeP rfl rfl ?_
        refine zeP rfl rfl ?_
        refine zeP rfl rfl ?_
        refine zeP rfl rfl ?_
        refine zeGR rfl rfl zS00 rfl rfl ?_
        refine zeP rfl rfl ?_
        refine zeKn (c := 2) rfl rfl rfl ?_
        refine zeCV rfl rfl rfl rfl (shM bb1) rfl (xc_blocksOf2 (m := m) (b := 1) (t := t.toNatClampNeg) bb1 t4 (hK.1 _ t4)) (by omega) ?_
        dsimp only [Option.toList, List.cons_append, List.nil_append]
        refine zeP rfl rfl ?_
        refine zeP rfl rfl ?_
        exact zeRe rfl rfl rfl rfl (by simp only [e_rivals, h1, h2, h3, cond_true, cond_false] <;> rfl) (by simp only [e_rivals, h1, h2, h3, cond_true, cond_false] <;> rfl)
      · exact zeThr rfl rfl rfl rfl rfl rfl (by simp only [e_rivals, h1, h2, h3, cond_true, cond_false] <;> rfl) (by simp only [e_rivals, h1, h2, h3, cond_true, cond_false] <;> rfl)
noncomputable def e_step (m : Nat → Nat → Int32) (t : Int32) : (Int32 ⊕ Nat) × (Nat → Nat → Int32) := (bif sOK m t then (bif zc1 .ne (x_sDone m 1 (t.toNatClampNeg)) then ((.inr 4), m) else (bif zc2 .lt (m 1 7) (Int32.ofNat 99999) then ((.inl ((x_takeStep ((zm2 m 131 8 (Int32.ofNat 0))) 1 ((t.toNatClampNeg))).1)), (x_takeStep ((zm2 m 131 8 (Int32.ofNat 0))) 1 ((t.toNatClampNeg))).2) else ((.inr 4), m))) else ((.inr 0), m))
theorem ec_step {σ : Nat → Nat × (Nat → Int32)} {yy : (Nat → Nat → Int64) × Bool × Nat × Nat} {m : Nat → Nat → Int32} {t : Int32} (hC : CG m 1) (hK : KX m 1 P0) : zF σ 6 1615 [.ref 0, .int t] (zS1, m, yy) (xo (e_step m t).1) (zS1, (e_step m t).2, (xy yy (e_step m t).1)) := by
  intro d hd
  obtain ⟨d, rfl⟩ : ∃ k, d = k + 1 := ⟨d - 1, by omega⟩
  show zEv σ (d + 1) 1615 0 [some (.ref 0), some (.int t), none] [] _ _ _
  refine zeP rfl rfl ?_
  refine zeP rfl rfl ?_
  cases h1 : sOK m t with
  | false =>
    exact zeThX rfl rfl rfl rfl rfl rfl (xn_1638 (m := m) (x := t) h1) (by omega) rfl rfl (by simp only [e_step, h1, cond_true, cond_false] <;> rfl) (by simp only [e_step, h1, cond_true, cond_false] <;> rfl)
  | true =>
    have c1 := xk_1638 (x := t) hC h1
    refine zeCV rfl rfl rfl rfl zS00 rfl (xo_1638 (m := m) (x := t) h1 hC) (by omega) ?_
    dsimp only [Option.toList, List.cons_append, List.nil_append]
    refine zeP rfl rfl ?_
    have t4 : t.toNatClampNeg < 4 := by have := hC.c4; omega
    refine zeP rfl rfl ?_
    refine zeCV rfl rfl rfl rfl (shS bb1 (by omega)) rfl (xc_sDone (m := m) (b := 1) (t := t.toNatClampNeg) bb1 t4) (by omega) ?_
    dsimp only [Option.toList, List.cons_append, List.nil_append]
    refine zeB1 rfl rfl (fun h2 => ?_) (fun h2 => ?_)
    · exact zeThr rfl rfl rfl rfl rfl rfl (by simp only [e_step, h1, h2, cond_true, cond_false] <;> rfl) (by simp only [e_step, h1, h2, cond_true, cond_false] <;> rfl)
    · refine zeP rfl rfl ?_
      refine zeGR rfl rfl zS00 rfl rfl ?_
      refine zeGI rfl rfl (shM bb1) rfl rfl ?_
      refine zeKn (c := 99999) rfl rfl rfl ?_
      refine zeB2 rfl rfl (fun h3 => ?_) (fun h3 => ?_)
      · refine zeP rfl rfl ?_
        refine zeGR rfl rfl zS00 rfl rfl ?_
        refine zeCV rfl rfl rfl rfl zS131 rfl (xc_forget (m := m)) (by omega) ?_
        dsimp only [Option.toList, List.cons_append, List.nil_append]
        refine zeP rfl rfl ?_
        refine zeGR rfl rfl zS00 rfl rfl ?_
        refine zeKn (c := t.toNatClampNeg) rfl rfl c1.1 ?_
        refine zeCV rfl rfl rfl rfl (shM bb1) rfl ((xc_takeStep (m := (zm2 m 131 8 (Int32.ofNat 0))) (b := 1) (t := (t.toNatClampNeg)) bb1 (hC.far (by omega)) ((hK.run t4 (c1ne0 (by assumption))).far (by omega)) t4).1) (by omega) ?_
        dsimp only [Option.toList, List.cons_append, List.nil_append]
        exact zeRe rfl rfl rfl rfl (by simp only [e_step, h1, h2, h3, cond_true, cond_false] <;> rfl) (by simp only [e_step, h1, h2, h3, cond_true, cond_false] <;> rfl)
      · exact zeThr rfl rfl rfl rfl rfl rfl (by simp only [e_step, h1, h2, h3, cond_true, cond_false] <;> rfl) (by simp only [e_step, h1, h2, h3, cond_true, cond_false] <;> rfl)
noncomputable def e_poke (m : Nat → Nat → Int32) (w : Int32) (v : Int32) : (Int32 ⊕ Nat) × (Nat → Nat → Int32) := (bif wOK w then (bif zc1 .lt v then ((.inr 2), m) else (bif zc2 .lt v (Int32.ofNat 10000) then ((.inl ((m ((1 + 1)) ((w.toNatClampNeg))))), (x_reachX ((zm2 m 131 8 (Int32.ofNat 0))) 1 ((w.toNatClampNeg)) v).2) else ((.inr 2), m))) else ((.inr 0), m))
theorem ec_poke {σ : Nat → Nat × (Nat → Int32)} {yy : (Nat → Nat → Int64) × Bool × Nat × Nat} {m : Nat → Nat → Int32} {w : Int32} {v : Int32} (hC : CG m 1) : zF σ 4 1619 [.ref 0, .int w, .int v] (zS1, m, yy) (xo (e_poke m w v).1) (zS1, (e_poke m w v).2, (xy yy (e_poke m w v).1)) := by
  intro d hd
  obtain ⟨d, rfl⟩ : ∃ k, d = k + 1 := ⟨d - 1, by omega⟩
  show zEv σ (d + 1) 1619 0 [some (.ref 0), some (.int w), some (.int v), none] [] _ _ _
  refine zeP rfl rfl ?_
  refine zeGR rfl rfl zS00 rfl rfl ?_
  refine zeGR rfl rfl (shM bb1) rfl rfl ?_
  refine zeP rfl rfl ?_
  cases h1 : wOK w with
  | false =>
    exact zeThX rfl rfl rfl rfl rfl rfl (xn_1639 (m := m) (x := w) h1) (by omega) rfl rfl (by simp only [e_poke, h1, cond_true, cond_false] <;> rfl) (by simp only [e_poke, h1, cond_true, cond_false] <;> rfl)
  | true =>
    have c1 := xk_1639 (x := w) h1
    refine zeCF rfl rfl rfl rfl rfl rfl (xo_1639 (m := m) (x := w) h1) (by omega) ?_
    dsimp only [Option.toList, List.cons_append, List.nil_append]
    refine zeAL (k := (w.toNatClampNeg)) rfl rfl (shW bb1) rfl (by omega) ?_
    refine zeP rfl rfl ?_
    refine zeP rfl rfl ?_
    refine zeB1 rfl rfl (fun h2 => ?_) (fun h2 => ?_)
    · exact zeThr rfl rfl rfl rfl rfl rfl (by simp only [e_poke, h1, h2, cond_true, cond_false] <;> rfl) (by simp only [e_poke, h1, h2, cond_true, cond_false] <;> rfl)
    · refine zeP rfl rfl ?_
      refine zeKn (c := 10000) rfl rfl rfl ?_
      refine zeB2 rfl rfl (fun h3 => ?_) (fun h3 => ?_)
      · refine zeP rfl rfl ?_
        refine zeGR rfl rfl zS00 rfl rfl ?_
        refine zeCV rfl rfl rfl rfl zS131 rfl (xc_forget (m := m)) (by omega) ?_
        dsimp only [Option.toList, List.cons_append, List.nil_append]
        refine zeP rfl rfl ?_
        refine zeGR rfl rfl zS00 rfl rfl ?_
        refine zeK (v := -1) rfl rfl rfl ?_
        refine zeKn (c := w.toNatClampNeg) rfl rfl c1.1 ?_
        refine zeP rfl rfl ?_
        refine zeCV rfl rfl rfl rfl (shM bb1) rfl (xc_reachX (m := (zm2 m 131 8 (Int32.ofNat 0))) (b := 1) (w := (w.toNatClampNeg)) (v := v) bb1 (hC.far (by omega)) c1.2) (by omega) ?_
        dsimp only [Option.toList, List.cons_append, List.nil_append]
        refine zeP rfl rfl ?_
        refine zeP rfl rfl ?_
        exact zeRe rfl rfl rfl rfl (by simp only [e_poke, h1, h2, h3, cond_true, cond_false] <;> rfl) (by simp only [e_poke, h1, h2, h3, cond_true, cond_false] <;> rfl)
      · exact zeThr rfl rfl rfl rfl rfl rfl (by simp only [e_poke, h1, h2, h3, cond_true, cond_false] <;> rfl) (by simp only [e_poke, h1, h2, h3, cond_true, cond_false] <;> rfl)
noncomputable def e_image (m : Nat → Nat → Int32) : (Nat → Nat → Int32) := (zm2 ((x_copyFrom m 85 1)) 0 3 ((Int32.ofNat 1)))
theorem ec_image {σ : Nat → Nat × (Nat → Int32)} {yy : (Nat → Nat → Int64) × Bool × Nat × Nat} {m : Nat → Nat → Int32} (hC : CG m 1) (hK : KX m 1 P0) : zF σ 4 1635 [.ref 0] (zS1, m, yy) (.inl none) (zS1, (e_image m), yy) := by
  intro d hd
  obtain ⟨d, rfl⟩ : ∃ k, d = k + 1 := ⟨d - 1, by omega⟩
  show zEv σ (d + 1) 1635 0 [some (.ref 0)] [] _ _ _
  refine zeP rfl rfl ?_
  refine zeGR rfl rfl zS00 rfl rfl ?_
  refine zeP rfl rfl ?_
  refine zeGR rfl rfl zS00 rfl rfl ?_
  refine zeCV rfl rfl rfl rfl (shM bb85) rfl (xc_copyFrom (m := m) (b := 85) (c := 1) bb85 bb1 (Or.inr (by omega)) hC.c hC.c4 (fun t ht => (hK.1 t ht).2.2.2.1)) (by omega) ?_
  dsimp only [Option.toList, List.cons_append, List.nil_append]
  refine zeP rfl rfl ?_
  refine zeKn (c := 1) rfl rfl rfl ?_
  refine zePB rfl rfl zS00 rfl (by decide) ?_
  exact zeRe rfl rfl rfl rfl (by rfl) (by rfl)
noncomputable def e_back (m : Nat → Nat → Int32) : Int32 × (Nat → Nat → Int32) := (bif zc1 .ne (m 0 3) then ((Int32.ofNat 1), (zm2 ((x_copyFrom m 1 85)) 131 8 (Int32.ofNat 0))) else ((Int32.ofNat 0), m))
theorem ec_back {σ : Nat → Nat × (Nat → Int32)} {yy : (Nat → Nat → Int64) × Bool × Nat × Nat} {m : Nat → Nat → Int32} (hC3 : CG m 85) (hK3 : KX m 85 P0) : zF σ 4 1636 [.ref 0] (zS1, m, yy) (.inl (some (.int (e_back m).1))) (zS1, (e_back m).2, yy) := by
  intro d hd
  obtain ⟨d, rfl⟩ : ∃ k, d = k + 1 := ⟨d - 1, by omega⟩
  show zEv σ (d + 1) 1636 0 [some (.ref 0)] [] _ _ _
  refine zeP rfl rfl ?_
  refine zeGI rfl rfl zS00 rfl rfl ?_
  refine zeB1 rfl rfl (fun h1 => ?_) (fun h1 => ?_)
  · refine zeP rfl rfl ?_
    refine zeGR rfl rfl zS00 rfl rfl ?_
    refine zeP rfl rfl ?_
    refine zeGR rfl rfl zS00 rfl rfl ?_
    refine zeCV rfl rfl rfl rfl (shM bb1) rfl (xc_copyFrom (m := m) (b := 1) (c := 85) bb1 bb85 (Or.inl (by omega)) hC3.c hC3.c4 (fun t ht => (hK3.1 t ht).2.2.2.1)) (by omega) ?_
    dsimp only [Option.toList, List.cons_append, List.nil_append]
    refine zeP rfl rfl ?_
    refine zeGR rfl rfl zS00 rfl rfl ?_
    refine zeCV rfl rfl rfl rfl zS131 rfl (xc_forget (m := (x_copyFrom m 1 85))) (by omega) ?_
    dsimp only [Option.toList, List.cons_append, List.nil_append]
    refine zeKn (c := 1) rfl rfl rfl ?_
    exact zeRe rfl rfl rfl rfl (by simp only [e_back, h1, cond_true, cond_false] <;> rfl) (by simp only [e_back, h1, cond_true, cond_false] <;> rfl)
  · refine zeKn (c := 0) rfl rfl rfl ?_
    exact zeRe rfl rfl rfl rfl (by simp only [e_back, h1, cond_true, cond_false] <;> rfl) (by simp only [e_back, h1, cond_true, cond_false] <;> rfl)
noncomputable def xl_goTurnL (n0 : Nat) : Nat → Nat → (Nat → Nat → Int32) → Int32 × (Nat → Nat → Int32)
  | 0, k, m => ((Int32.ofNat k), m)
  | n + 1, k, m => (bif zc2 .ge (m 1 7) (Int32.ofNat 99999) then ((Int32.ofNat k), m) else (bif zc2 .ne (x_nextByTurn m 1) (-1) then (xl_goTurnL n0 n ((k + 1)) ((x_takeStep m 1 (((x_nextByTurn m 1).toNatClampNeg))).2)) else ((Int32.ofNat k), m)))
theorem xw_goTurnL {σ : Nat → Nat × (Nat → Int32)} {yy : (Nat → Nat → Int64) × Bool × Nat × Nat} {n0 : Nat} {d : Nat} (hd : 6 ≤ d + 1) (hn0 : n0 ≤ 100) : ∀ (n : Nat) (k : Nat) (x4 : Option Value) (m : Nat → Nat → Int32), k + n = n0 → CG m 1 → KX m 1 P0 → zEv σ (d + 1) 1618 9 [some (.ref 0), some (.int (Int32.ofNat n0)), some (.int (Int32.ofNat 0)), some (.int (Int32.ofNat k)), x4] [] (zS1, m, yy) (.inl (some (.int (xl_goTurnL n0 n k m).1))) (zS1, ((xl_goTurnL n0 n k m).2), yy) := by
  intro n
  induction n with
  | zero =>
    intro k x4 m hk hC hK
    refine zeP rfl rfl ?_
    refine zeP rfl rfl ?_
    refine zeT2 rfl rfl (zcge (by omega) (by omega) (by omega)) ?_
    refine zeP rfl rfl ?_
    exact zeRe rfl rfl rfl rfl (by rfl) (by rfl)
  | succ n ih =>
    intro k x4 m hk hC hK
    refine zeP rfl rfl ?_
    refine zeP rfl rfl ?_
    refine zeF2 rfl rfl (zcge_f (by omega) (by omega) (by omega)) ?_
    refine zeP rfl rfl ?_
    refine zeGR rfl rfl zS00 rfl rfl ?_
    refine zeGI rfl rfl (shM bb1) rfl rfl ?_
    refine zeKn (c := 99999) rfl rfl rfl ?_
    refine zeB2 rfl rfl (fun h1 => ?_) (fun h1 => ?_)
    · refine zeP rfl rfl ?_
      exact zeRe rfl rfl rfl rfl (by simp only [xl_goTurnL, h1, cond_true, cond_false] <;> rfl) (by simp only [xl_goTurnL, h1, cond_true, cond_false] <;> rfl)
    · refine zeP rfl rfl ?_
      refine zeT1 rfl rfl (show zc1 .eq (Int32.ofNat 0) = true by decide) ?_
      refine zeP rfl rfl ?_
      refine zeGR rfl rfl zS00 rfl rfl ?_
      refine zeCV rfl rfl rfl rfl (shM bb1) rfl (xc_nextByTurn (m := m) (b := 1) bb1 hC hK.2.1) (by omega) ?_
      dsimp only [Option.toList, List.cons_append, List.nil_append]
      refine zeP rfl rfl ?_
      refine zeP rfl rfl ?_
      refine zeK (v := -1) rfl rfl rfl ?_
      refine zeB2 rfl rfl (fun h2 => ?_) (fun h2 => ?_)
      · have cn : (x_nextByTurn m 1) = Int32.ofNat (x_nextByTurn m 1).toNatClampNeg ∧ (x_nextByTurn m 1).toNatClampNeg < 4 ∧ x_sDone m 1 (x_nextByTurn m 1).toNatClampNeg = 0 := nt_ok hC (ne1_of (by assumption))
        refine zeP rfl rfl ?_
        refine zeGR rfl rfl zS00 rfl rfl ?_
        refine zeKn (c := (x_nextByTurn m 1).toNatClampNeg) rfl rfl cn.1 ?_
        refine zeCV rfl rfl rfl rfl (shM bb1) rfl ((xc_takeStep (m := m) (b := 1) (t := ((x_nextByTurn m 1).toNatClampNeg)) bb1 hC (hK.run cn.2.1 cn.2.2) cn.2.1).1) (by omega) ?_
        dsimp only [Option.toList, List.cons_append, List.nil_append]
        refine zeP rfl rfl ?_
        refine zeInc rfl rfl ?_
        refine zeP rfl rfl ?_
        simp only [xl_goTurnL, h1, h2, cond_true, cond_false]
        exact ih ((k + 1)) (some (.int (x_nextByTurn m 1)))  ((x_takeStep m 1 (((x_nextByTurn m 1).toNatClampNeg))).2) (by omega) (takeStep_kc bb1 hC (hK.run cn.2.1 cn.2.2) cn.2.1).2 (takeStep_kc bb1 hC (hK.run cn.2.1 cn.2.2) cn.2.1).1
      · refine zeP rfl rfl ?_
        refine zeP rfl rfl ?_
        exact zeRe rfl rfl rfl rfl (by simp only [xl_goTurnL, h1, h2, cond_true, cond_false] <;> rfl) (by simp only [xl_goTurnL, h1, h2, cond_true, cond_false] <;> rfl)
noncomputable def e_goTurn (m : Nat → Nat → Int32) (n0 : Nat) : Int32 × (Nat → Nat → Int32) := ((xl_goTurnL n0 n0 0 ((zm2 m 131 8 (Int32.ofNat 0)))).1, (xl_goTurnL n0 n0 0 ((zm2 m 131 8 (Int32.ofNat 0)))).2)
theorem ec_goTurn {σ : Nat → Nat × (Nat → Int32)} {yy : (Nat → Nat → Int64) × Bool × Nat × Nat} {m : Nat → Nat → Int32} {n0 : Nat} (hC : CG m 1) (hK : KX m 1 P0) (hn0 : n0 ≤ 100) : zF σ 6 1618 [.ref 0, .int (Int32.ofNat n0), .int (Int32.ofNat 0)] (zS1, m, yy) (.inl (some (.int (e_goTurn m n0).1))) (zS1, (e_goTurn m n0).2, yy) := by
  intro d hd
  obtain ⟨d, rfl⟩ : ∃ k, d = k + 1 := ⟨d - 1, by omega⟩
  show zEv σ (d + 1) 1618 0 [some (.ref 0), some (.int (Int32.ofNat n0)), some (.int (Int32.ofNat 0)), none, none] [] _ _ _
  refine zeP rfl rfl ?_
  refine zeGR rfl rfl zS00 rfl rfl ?_
  refine zeCV rfl rfl rfl rfl zS131 rfl (xc_forget (m := m)) (by omega) ?_
  dsimp only [Option.toList, List.cons_append, List.nil_append]
  refine zeKn (c := 0) rfl rfl rfl ?_
  refine zeP rfl rfl ?_
  simp only [e_goTurn, cond_true, cond_false]
  exact xw_goTurnL (n0 := n0) (by omega) hn0 n0 (0) (none)  ((zm2 m 131 8 (Int32.ofNat 0))) (by omega) (hC.far (by omega)) (hK.far (by omega))
noncomputable def xl_goDrawL (n0 : Nat) : Nat → Nat → (Nat → Nat → Int32) → Int32 × (Nat → Nat → Int32)
  | 0, k, m => ((Int32.ofNat k), m)
  | n + 1, k, m => (bif zc2 .ge (m 1 7) (Int32.ofNat 99999) then ((Int32.ofNat k), m) else (bif zc2 .ne (x_nextByDraw m 1).1 (-1) then (xl_goDrawL n0 n ((k + 1)) ((x_takeStep ((x_nextByDraw m 1).2) 1 (((x_nextByDraw m 1).1.toNatClampNeg))).2)) else ((Int32.ofNat k), (x_nextByDraw m 1).2)))
theorem xw_goDrawL {σ : Nat → Nat × (Nat → Int32)} {yy : (Nat → Nat → Int64) × Bool × Nat × Nat} {n0 : Nat} {d : Nat} (hd : 6 ≤ d + 1) (hn0 : n0 ≤ 100) : ∀ (n : Nat) (k : Nat) (x4 : Option Value) (m : Nat → Nat → Int32), k + n = n0 → CG m 1 → KX m 1 P0 → zEv σ (d + 1) 1618 9 [some (.ref 0), some (.int (Int32.ofNat n0)), some (.int (Int32.ofNat 1)), some (.int (Int32.ofNat k)), x4] [] (zS1, m, yy) (.inl (some (.int (xl_goDrawL n0 n k m).1))) (zS1, ((xl_goDrawL n0 n k m).2), yy) := by
  intro n
  induction n with
  | zero =>
    intro k x4 m hk hC hK
    refine zeP rfl rfl ?_
    refine zeP rfl rfl ?_
    refine zeT2 rfl rfl (zcge (by omega) (by omega) (by omega)) ?_
    refine zeP rfl rfl ?_
    exact zeRe rfl rfl rfl rfl (by rfl) (by rfl)
  | succ n ih =>
    intro k x4 m hk hC hK
    refine zeP rfl rfl ?_
    refine zeP rfl rfl ?_
    refine zeF2 rfl rfl (zcge_f (by omega) (by omega) (by omega)) ?_
    refine zeP rfl rfl ?_
    refine zeGR rfl rfl zS00 rfl rfl ?_
    refine zeGI rfl rfl (shM bb1) rfl rfl ?_
    refine zeKn (c := 99999) rfl rfl rfl ?_
    refine zeB2 rfl rfl (fun h1 => ?_) (fun h1 => ?_)
    · refine zeP rfl rfl ?_
      exact zeRe rfl rfl rfl rfl (by simp only [xl_goDrawL, h1, cond_true, cond_false] <;> rfl) (by simp only [xl_goDrawL, h1, cond_true, cond_false] <;> rfl)
    · refine zeP rfl rfl ?_
      refine zeF1 rfl rfl (show zc1 .eq (Int32.ofNat 1) = false by decide) ?_
      refine zeP rfl rfl ?_
      refine zeGR rfl rfl zS00 rfl rfl ?_
      refine zeCV rfl rfl rfl rfl (shM bb1) rfl (xc_nextByDraw (m := m) (b := 1) bb1 hC) (by omega) ?_
      dsimp only [Option.toList, List.cons_append, List.nil_append]
      refine zeP rfl rfl ?_
      refine zeP rfl rfl ?_
      refine zeP rfl rfl ?_
      refine zeK (v := -1) rfl rfl rfl ?_
      refine zeB2 rfl rfl (fun h2 => ?_) (fun h2 => ?_)
      · have cn : (x_nextByDraw m 1).1 = Int32.ofNat (x_nextByDraw m 1).1.toNatClampNeg ∧ (x_nextByDraw m 1).1.toNatClampNeg < 4 ∧ x_sDone (x_nextByDraw m 1).2 1 (x_nextByDraw m 1).1.toNatClampNeg = 0 := (nd_ok hC hK FB.refl).2.2.2 (ne1_of (by assumption))
        refine zeP rfl rfl ?_
        refine zeGR rfl rfl zS00 rfl rfl ?_
        refine zeKn (c := (x_nextByDraw m 1).1.toNatClampNeg) rfl rfl cn.1 ?_
        refine zeCV rfl rfl rfl rfl (shM bb1) rfl ((xc_takeStep (m := (x_nextByDraw m 1).2) (b := 1) (t := ((x_nextByDraw m 1).1.toNatClampNeg)) bb1 (nd_ok hC hK FB.refl).1 ((nd_ok hC hK FB.refl).2.1.run cn.2.1 cn.2.2) cn.2.1).1) (by omega) ?_
        dsimp only [Option.toList, List.cons_append, List.nil_append]
        refine zeP rfl rfl ?_
        refine zeInc rfl rfl ?_
        refine zeP rfl rfl ?_
        simp only [xl_goDrawL, h1, h2, cond_true, cond_false]
        exact ih ((k + 1)) (some (.int (x_nextByDraw m 1).1))  ((x_takeStep ((x_nextByDraw m 1).2) 1 (((x_nextByDraw m 1).1.toNatClampNeg))).2) (by omega) (takeStep_kc bb1 (nd_ok hC hK FB.refl).1 ((nd_ok hC hK FB.refl).2.1.run cn.2.1 cn.2.2) cn.2.1).2 (takeStep_kc bb1 (nd_ok hC hK FB.refl).1 ((nd_ok hC hK FB.refl).2.1.run cn.2.1 cn.2.2) cn.2.1).1
      · refine zeP rfl rfl ?_
        refine zeP rfl rfl ?_
        exact zeRe rfl rfl rfl rfl (by simp only [xl_goDrawL, h1, h2, cond_true, cond_false] <;> rfl) (by simp only [xl_goDrawL, h1, h2, cond_true, cond_false] <;> rfl)
noncomputable def e_goDraw (m : Nat → Nat → Int32) (n0 : Nat) : Int32 × (Nat → Nat → Int32) := ((xl_goDrawL n0 n0 0 ((zm2 m 131 8 (Int32.ofNat 0)))).1, (xl_goDrawL n0 n0 0 ((zm2 m 131 8 (Int32.ofNat 0)))).2)
theorem ec_goDraw {σ : Nat → Nat × (Nat → Int32)} {yy : (Nat → Nat → Int64) × Bool × Nat × Nat} {m : Nat → Nat → Int32} {n0 : Nat} (hC : CG m 1) (hK : KX m 1 P0) (hn0 : n0 ≤ 100) : zF σ 6 1618 [.ref 0, .int (Int32.ofNat n0), .int (Int32.ofNat 1)] (zS1, m, yy) (.inl (some (.int (e_goDraw m n0).1))) (zS1, (e_goDraw m n0).2, yy) := by
  intro d hd
  obtain ⟨d, rfl⟩ : ∃ k, d = k + 1 := ⟨d - 1, by omega⟩
  show zEv σ (d + 1) 1618 0 [some (.ref 0), some (.int (Int32.ofNat n0)), some (.int (Int32.ofNat 1)), none, none] [] _ _ _
  refine zeP rfl rfl ?_
  refine zeGR rfl rfl zS00 rfl rfl ?_
  refine zeCV rfl rfl rfl rfl zS131 rfl (xc_forget (m := m)) (by omega) ?_
  dsimp only [Option.toList, List.cons_append, List.nil_append]
  refine zeKn (c := 0) rfl rfl rfl ?_
  refine zeP rfl rfl ?_
  simp only [e_goDraw, cond_true, cond_false]
  exact xw_goDrawL (n0 := n0) (by omega) hn0 n0 (0) (none)  ((zm2 m 131 8 (Int32.ofNat 0))) (by omega) (hC.far (by omega)) (hK.far (by omega))
noncomputable def e_run (m : Nat → Nat → Int32) (n : Int32) : (Int32 ⊕ Nat) × (Nat → Nat → Int32) := (bif kOK n then ((.inl ((e_goTurn m ((n.toNatClampNeg))).1)), (e_goTurn m ((n.toNatClampNeg))).2) else ((.inr 2), m))
theorem ec_run {σ : Nat → Nat × (Nat → Int32)} {yy : (Nat → Nat → Int64) × Bool × Nat × Nat} {m : Nat → Nat → Int32} {n : Int32} (hC : CG m 1) (hK : KX m 1 P0) : zF σ 7 1616 [.ref 0, .int n] (zS1, m, yy) (xo (e_run m n).1) (zS1, (e_run m n).2, (xy yy (e_run m n).1)) := by
  intro d hd
  obtain ⟨d, rfl⟩ : ∃ k, d = k + 1 := ⟨d - 1, by omega⟩
  show zEv σ (d + 1) 1616 0 [some (.ref 0), some (.int n)] [] _ _ _
  refine zeP rfl rfl ?_
  refine zeP rfl rfl ?_
  cases h1 : kOK n with
  | false =>
    exact zeThX rfl rfl rfl rfl rfl rfl (xn_1641 (m := m) (x := n) h1) (by omega) rfl rfl (by simp only [e_run, h1, cond_true, cond_false] <;> rfl) (by simp only [e_run, h1, cond_true, cond_false] <;> rfl)
  | true =>
    have c1 := xk_1641 (x := n) h1
    refine zeCF rfl rfl rfl rfl rfl rfl (xo_1641 (m := m) (x := n) h1) (by omega) ?_
    dsimp only [Option.toList, List.cons_append, List.nil_append]
    refine zeKn (c := 0) rfl rfl rfl ?_
    refine zeCV rfl rfl rfl rfl zS00 rfl (ec_goTurn (m := m) (n0 := (n.toNatClampNeg)) hC hK c1.2.1) (by omega) ?_
    dsimp only [Option.toList, List.cons_append, List.nil_append]
    exact zeRe rfl rfl rfl rfl (by simp only [e_run, h1, cond_true, cond_false] <;> rfl) (by simp only [e_run, h1, cond_true, cond_false] <;> rfl)
noncomputable def e_chance (m : Nat → Nat → Int32) (n : Int32) : (Int32 ⊕ Nat) × (Nat → Nat → Int32) := (bif kOK n then ((.inl ((e_goDraw m ((n.toNatClampNeg))).1)), (e_goDraw m ((n.toNatClampNeg))).2) else ((.inr 2), m))
theorem ec_chance {σ : Nat → Nat × (Nat → Int32)} {yy : (Nat → Nat → Int64) × Bool × Nat × Nat} {m : Nat → Nat → Int32} {n : Int32} (hC : CG m 1) (hK : KX m 1 P0) : zF σ 7 1617 [.ref 0, .int n] (zS1, m, yy) (xo (e_chance m n).1) (zS1, (e_chance m n).2, (xy yy (e_chance m n).1)) := by
  intro d hd
  obtain ⟨d, rfl⟩ : ∃ k, d = k + 1 := ⟨d - 1, by omega⟩
  show zEv σ (d + 1) 1617 0 [some (.ref 0), some (.int n)] [] _ _ _
  refine zeP rfl rfl ?_
  refine zeP rfl rfl ?_
  cases h1 : kOK n with
  | false =>
    exact zeThX rfl rfl rfl rfl rfl rfl (xn_1641 (m := m) (x := n) h1) (by omega) rfl rfl (by simp only [e_chance, h1, cond_true, cond_false] <;> rfl) (by simp only [e_chance, h1, cond_true, cond_false] <;> rfl)
  | true =>
    have c1 := xk_1641 (x := n) h1
    refine zeCF rfl rfl rfl rfl rfl rfl (xo_1641 (m := m) (x := n) h1) (by omega) ?_
    dsimp only [Option.toList, List.cons_append, List.nil_append]
    refine zeKn (c := 1) rfl rfl rfl ?_
    refine zeCV rfl rfl rfl rfl zS00 rfl (ec_goDraw (m := m) (n0 := (n.toNatClampNeg)) hC hK c1.2.1) (by omega) ?_
    dsimp only [Option.toList, List.cons_append, List.nil_append]
    exact zeRe rfl rfl rfl rfl (by simp only [e_chance, h1, cond_true, cond_false] <;> rfl) (by simp only [e_chance, h1, cond_true, cond_false] <;> rfl)
theorem ge0_of {q : Int32} (h : zc1 .ge q = true) (hq : q.toInt ≤ 400) : q = Int32.ofNat q.toNatClampNeg ∧ q.toNatClampNeg ≤ 400 := by
  have a := of_decide_eq_true h
  rw [Int32.le_iff_toInt_le, Int32.toInt_zero] at a
  obtain ⟨g1, g2⟩ := nat_ge (x := q) a
  exact ⟨g1, by omega⟩
theorem ncE {b o k : Nat} (h : o = b + 3) : ¬ CGc b o k := by
  subst h
  rintro (⟨e, _⟩ | ⟨e, _⟩ | ⟨t, ht, ⟨e, _⟩ | e⟩ | ⟨l, hl, e, _⟩) <;> omega
noncomputable def xl_taTL (t : Nat) (x : Int32) (n0 : Nat) : Nat → Nat → (Nat → Nat → Int32) → Int32 × (Nat → Nat → Int32)
  | 0, k, m => (bif zc1 .eq (x_mDoneT m 43 t) then ((-1), m) else ((Int32.ofNat n0), m))
  | n + 1, k, m => (bif zc1 .eq (x_mDoneT m 43 t) then (bif zc2 .eq (x_nextByTurn m 43) (-1) then ((-1), m) else (bif zc2 .lt (m 43 7) (Int32.ofNat 99999) then (xl_taTL t x n0 n ((k + 1)) ((x_takeStep m 43 (((x_nextByTurn m 43).toNatClampNeg))).2)) else ((-1), m))) else ((Int32.ofNat k), m))
theorem xw_taTL {σ : Nat → Nat × (Nat → Int32)} {yy : (Nat → Nat → Int64) × Bool × Nat × Nat} {t : Nat} {x : Int32} {n0 : Nat} {d : Nat} (hd : 6 ≤ d + 1) (hn0 : n0 ≤ 400) (ht : t < 4) : ∀ (n : Nat) (k : Nat) (x5 : Option Value) (m : Nat → Nat → Int32), k + n = n0 → CG m 43 → KX m 43 P0 → zEv σ (d + 1) 1625 30 [some (.ref 0), some (.int (Int32.ofNat t)), some (.int x), some (.int (Int32.ofNat n0)), some (.int (Int32.ofNat k)), x5] [] (zS1, m, yy) (.inl (some (.int (xl_taTL t x n0 n k m).1))) (zS1, ((xl_taTL t x n0 n k m).2), yy) := by
  intro n
  induction n with
  | zero =>
    intro k x5 m hk hC2 hK2
    refine zeP rfl rfl ?_
    refine zeP rfl rfl ?_
    refine zeT2 rfl rfl (zcge (by omega) (by omega) (by omega)) ?_
    refine zeP rfl rfl ?_
    refine zeGR rfl rfl zS00 rfl rfl ?_
    refine zeP rfl rfl ?_
    refine zeCV rfl rfl rfl rfl (shM bb43) rfl (xc_mDoneT (m := m) (b := 43) (t := t) bb43 ht) (by omega) ?_
    dsimp only [Option.toList, List.cons_append, List.nil_append]
    refine zeB1 rfl rfl (fun h1 => ?_) (fun h1 => ?_)
    · refine zeK (v := -1) rfl rfl rfl ?_
      exact zeRe rfl rfl rfl rfl (by simp only [xl_taTL, h1, cond_true, cond_false] <;> rfl) (by simp only [xl_taTL, h1, cond_true, cond_false] <;> rfl)
    · refine zeP rfl rfl ?_
      refine zeP rfl rfl ?_
      exact zeRe rfl rfl rfl rfl (by simp only [xl_taTL, h1, cond_true, cond_false] <;> rfl) (by simp only [xl_taTL, h1, cond_true, cond_false] <;> rfl)
  | succ n ih =>
    intro k x5 m hk hC2 hK2
    refine zeP rfl rfl ?_
    refine zeP rfl rfl ?_
    refine zeF2 rfl rfl (zcge_f (by omega) (by omega) (by omega)) ?_
    refine zeP rfl rfl ?_
    refine zeGR rfl rfl zS00 rfl rfl ?_
    refine zeP rfl rfl ?_
    refine zeCV rfl rfl rfl rfl (shM bb43) rfl (xc_mDoneT (m := m) (b := 43) (t := t) bb43 ht) (by omega) ?_
    dsimp only [Option.toList, List.cons_append, List.nil_append]
    refine zeB1 rfl rfl (fun h1 => ?_) (fun h1 => ?_)
    · refine zeP rfl rfl ?_
      refine zeGR rfl rfl zS00 rfl rfl ?_
      refine zeCV rfl rfl rfl rfl (shM bb43) rfl (xc_nextByTurn (m := m) (b := 43) bb43 hC2 hK2.2.1) (by omega) ?_
      dsimp only [Option.toList, List.cons_append, List.nil_append]
      refine zeP rfl rfl ?_
      refine zeP rfl rfl ?_
      refine zeK (v := -1) rfl rfl rfl ?_
      refine zeB2 rfl rfl (fun h2 => ?_) (fun h2 => ?_)
      · refine zeK (v := -1) rfl rfl rfl ?_
        exact zeRe rfl rfl rfl rfl (by simp only [xl_taTL, h1, h2, cond_true, cond_false] <;> rfl) (by simp only [xl_taTL, h1, h2, cond_true, cond_false] <;> rfl)
      · refine zeP rfl rfl ?_
        refine zeGR rfl rfl zS00 rfl rfl ?_
        refine zeGI rfl rfl (shM bb43) rfl rfl ?_
        refine zeKn (c := 99999) rfl rfl rfl ?_
        refine zeB2 rfl rfl (fun h3 => ?_) (fun h3 => ?_)
        · have cn : (x_nextByTurn m 43) = Int32.ofNat (x_nextByTurn m 43).toNatClampNeg ∧ (x_nextByTurn m 43).toNatClampNeg < 4 ∧ x_sDone m 43 (x_nextByTurn m 43).toNatClampNeg = 0 := nt_ok hC2 (ne1_of2 (by assumption))
          refine zeP rfl rfl ?_
          refine zeGR rfl rfl zS00 rfl rfl ?_
          refine zeKn (c := (x_nextByTurn m 43).toNatClampNeg) rfl rfl cn.1 ?_
          refine zeCV rfl rfl rfl rfl (shM bb43) rfl ((xc_takeStep (m := m) (b := 43) (t := ((x_nextByTurn m 43).toNatClampNeg)) bb43 hC2 (hK2.run cn.2.1 cn.2.2) cn.2.1).1) (by omega) ?_
          dsimp only [Option.toList, List.cons_append, List.nil_append]
          refine zeP rfl rfl ?_
          refine zeInc rfl rfl ?_
          refine zeP rfl rfl ?_
          simp only [xl_taTL, h1, h2, h3, cond_true, cond_false]
          exact ih ((k + 1)) (some (.int (x_nextByTurn m 43)))  ((x_takeStep m 43 (((x_nextByTurn m 43).toNatClampNeg))).2) (by omega) (takeStep_kc bb43 hC2 (hK2.run cn.2.1 cn.2.2) cn.2.1).2 (takeStep_kc bb43 hC2 (hK2.run cn.2.1 cn.2.2) cn.2.1).1
        · refine zeK (v := -1) rfl rfl rfl ?_
          exact zeRe rfl rfl rfl rfl (by simp only [xl_taTL, h1, h2, h3, cond_true, cond_false] <;> rfl) (by simp only [xl_taTL, h1, h2, h3, cond_true, cond_false] <;> rfl)
    · refine zeP rfl rfl ?_
      exact zeRe rfl rfl rfl rfl (by simp only [xl_taTL, h1, cond_true, cond_false] <;> rfl) (by simp only [xl_taTL, h1, cond_true, cond_false] <;> rfl)
noncomputable def e_taT (m : Nat → Nat → Int32) (t : Nat) (x : Int32) (q : Int32) : Int32 × (Nat → Nat → Int32) := (bif zc1 .ge q then ((xl_taTL t x ((q.toNatClampNeg)) ((q.toNatClampNeg)) 0 ((zm2 ((x_copyFrom m 43 1)) ((43 + 3)) 4 x))).1, (xl_taTL t x ((q.toNatClampNeg)) ((q.toNatClampNeg)) 0 ((zm2 ((x_copyFrom m 43 1)) ((43 + 3)) 4 x))).2) else ((-1), m))
theorem ec_taT {σ : Nat → Nat × (Nat → Int32)} {yy : (Nat → Nat → Int64) × Bool × Nat × Nat} {m : Nat → Nat → Int32} {t : Nat} {x : Int32} {q : Int32} (hC : CG m 1) (hK : KX m 1 P0) (hC2 : CG m 43) (hK2 : KX m 43 P0) (hq : q.toInt ≤ 400) (ht : t < 4) : zF σ 6 1625 [.ref 0, .int (Int32.ofNat t), .int x, .int q] (zS1, m, yy) (.inl (some (.int (e_taT m t x q).1))) (zS1, (e_taT m t x q).2, yy) := by
  intro d hd
  obtain ⟨d, rfl⟩ : ∃ k, d = k + 1 := ⟨d - 1, by omega⟩
  show zEv σ (d + 1) 1625 0 [some (.ref 0), some (.int (Int32.ofNat t)), some (.int x), some (.int q), none, none] [] _ _ _
  refine zeP rfl rfl ?_
  refine zeB1 rfl rfl (fun h1 => ?_) (fun h1 => ?_)
  · have cq : q = Int32.ofNat q.toNatClampNeg ∧ q.toNatClampNeg ≤ 400 := (ge0_of (by assumption) hq)
    refine zeP rfl rfl ?_
    refine zeGR rfl rfl zS00 rfl rfl ?_
    refine zeP rfl rfl ?_
    refine zeGR rfl rfl zS00 rfl rfl ?_
    refine zeCV rfl rfl rfl rfl (shM bb43) rfl (xc_copyFrom (m := m) (b := 43) (c := 1) bb43 bb1 (Or.inr (by omega)) hC.c hC.c4 (fun t ht => (hK.1 t ht).2.2.2.1)) (by omega) ?_
    dsimp only [Option.toList, List.cons_append, List.nil_append]
    refine zeP rfl rfl ?_
    refine zeGR rfl rfl zS00 rfl rfl ?_
    refine zeGR rfl rfl (shM bb43) rfl rfl ?_
    refine zeKn (c := 4) rfl rfl rfl ?_
    refine zeP rfl rfl ?_
    refine zeAS (k := 4) rfl (shE bb43) rfl (by omega) ?_
    refine zeKn (c := 0) rfl rfl rfl ?_
    refine zeP rfl rfl ?_
    simp only [e_taT, h1, cond_true, cond_false]
    have ez := xw_taTL (t := t) (x := x) (n0 := (q.toNatClampNeg)) (σ := σ) (yy := yy) (d := d) (by omega) cq.2 ht ((q.toNatClampNeg)) (0) (none)  ((zm2 ((x_copyFrom m 43 1)) ((43 + 3)) 4 x)) (by omega) (CG.put (CG.copy (Or.inr (by omega)) hC2 hC) _ (ncE (by omega))) (KX.put (KX.copy (Or.inr (by omega)) hK2 hK hC) _ (ndX (by omega) (by omega)))
    rw [← cq.1] at ez
    exact ez
  · refine zeK (v := -1) rfl rfl rfl ?_
    exact zeRe rfl rfl rfl rfl (by simp only [e_taT, h1, cond_true, cond_false] <;> rfl) (by simp only [e_taT, h1, cond_true, cond_false] <;> rfl)
noncomputable def xl_taXL (x : Int32) (n0 : Nat) : Nat → Nat → (Nat → Nat → Int32) → Int32 × (Nat → Nat → Int32)
  | 0, k, m => (bif zc1 .eq (x_mDoneX m 43) then ((-1), m) else ((Int32.ofNat n0), m))
  | n + 1, k, m => (bif zc1 .eq (x_mDoneX m 43) then (bif zc2 .eq (x_nextByTurn m 43) (-1) then ((-1), m) else (bif zc2 .lt (m 43 7) (Int32.ofNat 99999) then (xl_taXL x n0 n ((k + 1)) ((x_takeStep m 43 (((x_nextByTurn m 43).toNatClampNeg))).2)) else ((-1), m))) else ((Int32.ofNat k), m))
theorem xw_taXL {σ : Nat → Nat × (Nat → Int32)} {yy : (Nat → Nat → Int64) × Bool × Nat × Nat} {x : Int32} {n0 : Nat} {d : Nat} (hd : 6 ≤ d + 1) (hn0 : n0 ≤ 400) : ∀ (n : Nat) (k : Nat) (x5 : Option Value) (m : Nat → Nat → Int32), k + n = n0 → CG m 43 → KX m 43 P0 → zEv σ (d + 1) 1625 30 [some (.ref 0), some (.int (-1)), some (.int x), some (.int (Int32.ofNat n0)), some (.int (Int32.ofNat k)), x5] [] (zS1, m, yy) (.inl (some (.int (xl_taXL x n0 n k m).1))) (zS1, ((xl_taXL x n0 n k m).2), yy) := by
  intro n
  induction n with
  | zero =>
    intro k x5 m hk hC2 hK2
    refine zeP rfl rfl ?_
    refine zeP rfl rfl ?_
    refine zeT2 rfl rfl (zcge (by omega) (by omega) (by omega)) ?_
    refine zeP rfl rfl ?_
    refine zeGR rfl rfl zS00 rfl rfl ?_
    refine zeP rfl rfl ?_
    refine zeCV rfl rfl rfl rfl (shM bb43) rfl (xc_mDoneX (m := m) (b := 43) bb43 hC2 hK2.2.1) (by omega) ?_
    dsimp only [Option.toList, List.cons_append, List.nil_append]
    refine zeB1 rfl rfl (fun h1 => ?_) (fun h1 => ?_)
    · refine zeK (v := -1) rfl rfl rfl ?_
      exact zeRe rfl rfl rfl rfl (by simp only [xl_taXL, h1, cond_true, cond_false] <;> rfl) (by simp only [xl_taXL, h1, cond_true, cond_false] <;> rfl)
    · refine zeP rfl rfl ?_
      refine zeP rfl rfl ?_
      exact zeRe rfl rfl rfl rfl (by simp only [xl_taXL, h1, cond_true, cond_false] <;> rfl) (by simp only [xl_taXL, h1, cond_true, cond_false] <;> rfl)
  | succ n ih =>
    intro k x5 m hk hC2 hK2
    refine zeP rfl rfl ?_
    refine zeP rfl rfl ?_
    refine zeF2 rfl rfl (zcge_f (by omega) (by omega) (by omega)) ?_
    refine zeP rfl rfl ?_
    refine zeGR rfl rfl zS00 rfl rfl ?_
    refine zeP rfl rfl ?_
    refine zeCV rfl rfl rfl rfl (shM bb43) rfl (xc_mDoneX (m := m) (b := 43) bb43 hC2 hK2.2.1) (by omega) ?_
    dsimp only [Option.toList, List.cons_append, List.nil_append]
    refine zeB1 rfl rfl (fun h1 => ?_) (fun h1 => ?_)
    · refine zeP rfl rfl ?_
      refine zeGR rfl rfl zS00 rfl rfl ?_
      refine zeCV rfl rfl rfl rfl (shM bb43) rfl (xc_nextByTurn (m := m) (b := 43) bb43 hC2 hK2.2.1) (by omega) ?_
      dsimp only [Option.toList, List.cons_append, List.nil_append]
      refine zeP rfl rfl ?_
      refine zeP rfl rfl ?_
      refine zeK (v := -1) rfl rfl rfl ?_
      refine zeB2 rfl rfl (fun h2 => ?_) (fun h2 => ?_)
      · refine zeK (v := -1) rfl rfl rfl ?_
        exact zeRe rfl rfl rfl rfl (by simp only [xl_taXL, h1, h2, cond_true, cond_false] <;> rfl) (by simp only [xl_taXL, h1, h2, cond_true, cond_false] <;> rfl)
      · refine zeP rfl rfl ?_
        refine zeGR rfl rfl zS00 rfl rfl ?_
        refine zeGI rfl rfl (shM bb43) rfl rfl ?_
        refine zeKn (c := 99999) rfl rfl rfl ?_
        refine zeB2 rfl rfl (fun h3 => ?_) (fun h3 => ?_)
        · have cn : (x_nextByTurn m 43) = Int32.ofNat (x_nextByTurn m 43).toNatClampNeg ∧ (x_nextByTurn m 43).toNatClampNeg < 4 ∧ x_sDone m 43 (x_nextByTurn m 43).toNatClampNeg = 0 := nt_ok hC2 (ne1_of2 (by assumption))
          refine zeP rfl rfl ?_
          refine zeGR rfl rfl zS00 rfl rfl ?_
          refine zeKn (c := (x_nextByTurn m 43).toNatClampNeg) rfl rfl cn.1 ?_
          refine zeCV rfl rfl rfl rfl (shM bb43) rfl ((xc_takeStep (m := m) (b := 43) (t := ((x_nextByTurn m 43).toNatClampNeg)) bb43 hC2 (hK2.run cn.2.1 cn.2.2) cn.2.1).1) (by omega) ?_
          dsimp only [Option.toList, List.cons_append, List.nil_append]
          refine zeP rfl rfl ?_
          refine zeInc rfl rfl ?_
          refine zeP rfl rfl ?_
          simp only [xl_taXL, h1, h2, h3, cond_true, cond_false]
          exact ih ((k + 1)) (some (.int (x_nextByTurn m 43)))  ((x_takeStep m 43 (((x_nextByTurn m 43).toNatClampNeg))).2) (by omega) (takeStep_kc bb43 hC2 (hK2.run cn.2.1 cn.2.2) cn.2.1).2 (takeStep_kc bb43 hC2 (hK2.run cn.2.1 cn.2.2) cn.2.1).1
        · refine zeK (v := -1) rfl rfl rfl ?_
          exact zeRe rfl rfl rfl rfl (by simp only [xl_taXL, h1, h2, h3, cond_true, cond_false] <;> rfl) (by simp only [xl_taXL, h1, h2, h3, cond_true, cond_false] <;> rfl)
    · refine zeP rfl rfl ?_
      exact zeRe rfl rfl rfl rfl (by simp only [xl_taXL, h1, cond_true, cond_false] <;> rfl) (by simp only [xl_taXL, h1, cond_true, cond_false] <;> rfl)
noncomputable def e_taX (m : Nat → Nat → Int32) (x : Int32) (q : Int32) : Int32 × (Nat → Nat → Int32) := (bif zc1 .ge q then ((xl_taXL x ((q.toNatClampNeg)) ((q.toNatClampNeg)) 0 ((zm2 ((x_copyFrom m 43 1)) ((43 + 3)) 4 x))).1, (xl_taXL x ((q.toNatClampNeg)) ((q.toNatClampNeg)) 0 ((zm2 ((x_copyFrom m 43 1)) ((43 + 3)) 4 x))).2) else ((-1), m))
theorem ec_taX {σ : Nat → Nat × (Nat → Int32)} {yy : (Nat → Nat → Int64) × Bool × Nat × Nat} {m : Nat → Nat → Int32} {x : Int32} {q : Int32} (hC : CG m 1) (hK : KX m 1 P0) (hC2 : CG m 43) (hK2 : KX m 43 P0) (hq : q.toInt ≤ 400) : zF σ 6 1625 [.ref 0, .int (-1), .int x, .int q] (zS1, m, yy) (.inl (some (.int (e_taX m x q).1))) (zS1, (e_taX m x q).2, yy) := by
  intro d hd
  obtain ⟨d, rfl⟩ : ∃ k, d = k + 1 := ⟨d - 1, by omega⟩
  show zEv σ (d + 1) 1625 0 [some (.ref 0), some (.int (-1)), some (.int x), some (.int q), none, none] [] _ _ _
  refine zeP rfl rfl ?_
  refine zeB1 rfl rfl (fun h1 => ?_) (fun h1 => ?_)
  · have cq : q = Int32.ofNat q.toNatClampNeg ∧ q.toNatClampNeg ≤ 400 := (ge0_of (by assumption) hq)
    refine zeP rfl rfl ?_
    refine zeGR rfl rfl zS00 rfl rfl ?_
    refine zeP rfl rfl ?_
    refine zeGR rfl rfl zS00 rfl rfl ?_
    refine zeCV rfl rfl rfl rfl (shM bb43) rfl (xc_copyFrom (m := m) (b := 43) (c := 1) bb43 bb1 (Or.inr (by omega)) hC.c hC.c4 (fun t ht => (hK.1 t ht).2.2.2.1)) (by omega) ?_
    dsimp only [Option.toList, List.cons_append, List.nil_append]
    refine zeP rfl rfl ?_
    refine zeGR rfl rfl zS00 rfl rfl ?_
    refine zeGR rfl rfl (shM bb43) rfl rfl ?_
    refine zeKn (c := 4) rfl rfl rfl ?_
    refine zeP rfl rfl ?_
    refine zeAS (k := 4) rfl (shE bb43) rfl (by omega) ?_
    refine zeKn (c := 0) rfl rfl rfl ?_
    refine zeP rfl rfl ?_
    simp only [e_taX, h1, cond_true, cond_false]
    have ez := xw_taXL (x := x) (n0 := (q.toNatClampNeg)) (σ := σ) (yy := yy) (d := d) (by omega) cq.2 ((q.toNatClampNeg)) (0) (none)  ((zm2 ((x_copyFrom m 43 1)) ((43 + 3)) 4 x)) (by omega) (CG.put (CG.copy (Or.inr (by omega)) hC2 hC) _ (ncE (by omega))) (KX.put (KX.copy (Or.inr (by omega)) hK2 hK hC) _ (ndX (by omega) (by omega)))
    rw [← cq.1] at ez
    exact ez
  · refine zeK (v := -1) rfl rfl rfl ?_
    exact zeRe rfl rfl rfl rfl (by simp only [e_taX, h1, cond_true, cond_false] <;> rfl) (by simp only [e_taX, h1, cond_true, cond_false] <;> rfl)
noncomputable def e_due (m : Nat → Nat → Int32) (t : Int32) : (Int32 ⊕ Nat) × (Nat → Nat → Int32) := (bif sOK m t then ((.inl ((e_taT m ((t.toNatClampNeg)) ((m ((1 + 3)) 4)) ((Int32.ofNat 400))).1)), (e_taT m ((t.toNatClampNeg)) ((m ((1 + 3)) 4)) ((Int32.ofNat 400))).2) else ((.inr 0), m))
theorem ec_due {σ : Nat → Nat × (Nat → Int32)} {yy : (Nat → Nat → Int64) × Bool × Nat × Nat} {m : Nat → Nat → Int32} {t : Int32} (hC : CG m 1) (hK : KX m 1 P0) (hC2 : CG m 43) (hK2 : KX m 43 P0) : zF σ 7 1622 [.ref 0, .int t] (zS1, m, yy) (xo (e_due m t).1) (zS1, (e_due m t).2, (xy yy (e_due m t).1)) := by
  intro d hd
  obtain ⟨d, rfl⟩ : ∃ k, d = k + 1 := ⟨d - 1, by omega⟩
  show zEv σ (d + 1) 1622 0 [some (.ref 0), some (.int t)] [] _ _ _
  refine zeP rfl rfl ?_
  refine zeP rfl rfl ?_
  cases h1 : sOK m t with
  | false =>
    exact zeThX rfl rfl rfl rfl rfl rfl (xn_1638 (m := m) (x := t) h1) (by omega) rfl rfl (by simp only [e_due, h1, cond_true, cond_false] <;> rfl) (by simp only [e_due, h1, cond_true, cond_false] <;> rfl)
  | true =>
    have c1 := xk_1638 (x := t) hC h1
    refine zeCV rfl rfl rfl rfl zS00 rfl (xo_1638 (m := m) (x := t) h1 hC) (by omega) ?_
    dsimp only [Option.toList, List.cons_append, List.nil_append]
    have t4 : t.toNatClampNeg < 4 := by have := hC.c4; omega
    refine zeP rfl rfl ?_
    refine zeP rfl rfl ?_
    refine zeKn (c := t.toNatClampNeg) rfl rfl c1.1 ?_
    refine zeP rfl rfl ?_
    refine zeGR rfl rfl zS00 rfl rfl ?_
    refine zeGR rfl rfl (shM bb1) rfl rfl ?_
    refine zeKn (c := 4) rfl rfl rfl ?_
    refine zeAL (k := 4) rfl rfl (shE bb1) rfl (by omega) ?_
    refine zeKn (c := 400) rfl rfl rfl ?_
    refine zeCV rfl rfl rfl rfl zS00 rfl (ec_taT (m := m) (t := (t.toNatClampNeg)) (x := (m ((1 + 3)) 4)) (q := (Int32.ofNat 400)) hC hK hC2 hK2 (by decide) t4) (by omega) ?_
    dsimp only [Option.toList, List.cons_append, List.nil_append]
    exact zeRe rfl rfl rfl rfl (by simp only [e_due, h1, cond_true, cond_false] <;> rfl) (by simp only [e_due, h1, cond_true, cond_false] <;> rfl)
noncomputable def e_plain (m : Nat → Nat → Int32) : Int32 × (Nat → Nat → Int32) := ((e_taX m ((Int32.ofNat 16)) ((Int32.ofNat 400))).1, (e_taX m ((Int32.ofNat 16)) ((Int32.ofNat 400))).2)
theorem ec_plain {σ : Nat → Nat × (Nat → Int32)} {yy : (Nat → Nat → Int64) × Bool × Nat × Nat} {m : Nat → Nat → Int32} (hC : CG m 1) (hK : KX m 1 P0) (hC2 : CG m 43) (hK2 : KX m 43 P0) : zF σ 7 1624 [.ref 0] (zS1, m, yy) (.inl (some (.int (e_plain m).1))) (zS1, (e_plain m).2, yy) := by
  intro d hd
  obtain ⟨d, rfl⟩ : ∃ k, d = k + 1 := ⟨d - 1, by omega⟩
  show zEv σ (d + 1) 1624 0 [some (.ref 0)] [] _ _ _
  refine zeP rfl rfl ?_
  refine zeK (v := -1) rfl rfl rfl ?_
  refine zeKn (c := 16) rfl rfl rfl ?_
  refine zeKn (c := 400) rfl rfl rfl ?_
  refine zeCV rfl rfl rfl rfl zS00 rfl (ec_taX (m := m) (x := (Int32.ofNat 16)) (q := (Int32.ofNat 400)) hC hK hC2 hK2 (by decide)) (by omega) ?_
  dsimp only [Option.toList, List.cons_append, List.nil_append]
  exact zeRe rfl rfl rfl rfl (by rfl) (by rfl)
end
section
/-! looking ahead keeps the order, and touches the draft alone -/
noncomputable def TAo (P : Nat → Nat → Int32) (q : Int32 × (Nat → Nat → Int32)) : Prop := CG q.2 43 ∧ KX q.2 43 P0 ∧ FB q.2 43 P ∧ (q.1 = -1 ∨ ∃ v, v ≤ 400 ∧ q.1 = Int32.ofNat v)
theorem TAo.mk {P m : Nat → Nat → Int32} {v : Int32} (hc : CG m 43) (hk : KX m 43 P0) (hf : FB m 43 P) (hv : v = -1 ∨ ∃ u, u ≤ 400 ∧ v = Int32.ofNat u) : TAo P (v, m) := ⟨hc, hk, hf, hv⟩
theorem taTL_ok {P : Nat → Nat → Int32} {t n0 : Nat} {x : Int32} (h0 : n0 ≤ 400) : ∀ (n k : Nat) (m : Nat → Nat → Int32), k + n = n0 → CG m 43 → KX m 43 P0 → FB m 43 P → TAo P (xl_taTL t x n0 n k m) := by
  intro n
  induction n with
  | zero =>
    intro k m hk hc hx hf
    rw [xl_taTL]
    exact cndi (TAo P) (TAo.mk hc hx hf (Or.inl rfl)) (TAo.mk hc hx hf (Or.inr ⟨n0, h0, rfl⟩))
  | succ n ih =>
    intro k m hk hc hx hf
    rw [xl_taTL]
    refine cnd4 (TAo P) (fun _ => cnd4 (TAo P) (fun _ => TAo.mk hc hx hf (Or.inl rfl)) (fun e => cnd4 (TAo P) (fun _ => ?_) (fun _ => TAo.mk hc hx hf (Or.inl rfl)))) (fun _ => TAo.mk hc hx hf (Or.inr ⟨k, by omega, rfl⟩))
    have cn := nt_ok hc (ne1_of2 e)
    have hr := hx.run cn.2.1 cn.2.2
    have g := takeStep_kc bb43 hc hr cn.2.1
    exact ih _ _ (by omega) g.2 g.1 (hf.takeStep hc hr cn.2.1)
theorem taXL_ok {P : Nat → Nat → Int32} {n0 : Nat} {x : Int32} (h0 : n0 ≤ 400) : ∀ (n k : Nat) (m : Nat → Nat → Int32), k + n = n0 → CG m 43 → KX m 43 P0 → FB m 43 P → TAo P (xl_taXL x n0 n k m) := by
  intro n
  induction n with
  | zero =>
    intro k m hk hc hx hf
    rw [xl_taXL]
    exact cndi (TAo P) (TAo.mk hc hx hf (Or.inl rfl)) (TAo.mk hc hx hf (Or.inr ⟨n0, h0, rfl⟩))
  | succ n ih =>
    intro k m hk hc hx hf
    rw [xl_taXL]
    refine cnd4 (TAo P) (fun _ => cnd4 (TAo P) (fun _ => TAo.mk hc hx hf (Or.inl rfl)) (fun e => cnd4 (TAo P) (fun _ => ?_) (fun _ => TAo.mk hc hx hf (Or.inl rfl)))) (fun _ => TAo.mk hc hx hf (Or.inr ⟨k, by omega, rfl⟩))
    have cn := nt_ok hc (ne1_of2 e)
    have hr := hx.run cn.2.1 cn.2.2
    have g := takeStep_kc bb43 hc hr cn.2.1
    exact ih _ _ (by omega) g.2 g.1 (hf.takeStep hc hr cn.2.1)
section ZTA
variable {m : Nat → Nat → Int32} {t : Nat} {x q : Int32}
theorem nle_of (hq : q.toInt ≤ 400) : q.toNatClampNeg ≤ 400 := by
  have h3 : q.toNatClampNeg = q.toInt.toNat := rfl
  omega
theorem cpy43_c (hC : CG m 1) (hC2 : CG m 43) : CG (zm2 (x_copyFrom m 43 1) (43 + 3) 4 x) 43 := CG.put (CG.copy (Or.inr (by omega)) hC2 hC) _ (ncE (by omega))
theorem cpy43_k (hK : KX m 1 P0) (hC : CG m 1) (hK2 : KX m 43 P0) : KX (zm2 (x_copyFrom m 43 1) (43 + 3) 4 x) 43 P0 := KX.put (KX.copy (Or.inr (by omega)) hK2 hK hC) _ (ndX (by omega) (by omega))
theorem cpy43_f (hC : CG m 1) : FB (zm2 (x_copyFrom m 43 1) (43 + 3) 4 x) 43 m := FB.put (FB.copy (Or.inr (by omega)) hC FB.refl) _ ⟨by omega, by omega⟩
theorem taT_ok (hC : CG m 1) (hK : KX m 1 P0) (hC2 : CG m 43) (hK2 : KX m 43 P0) (hq : q.toInt ≤ 400) : TAo m (e_taT m t x q) := by
  unfold e_taT
  exact cnd4 (TAo m) (fun _ => taTL_ok (nle_of hq) _ _ _ (by omega) (cpy43_c hC hC2) (cpy43_k hK hC hK2) (cpy43_f hC)) (fun _ => TAo.mk hC2 hK2 FB.refl (Or.inl rfl))
theorem taX_ok (hC : CG m 1) (hK : KX m 1 P0) (hC2 : CG m 43) (hK2 : KX m 43 P0) (hq : q.toInt ≤ 400) : TAo m (e_taX m x q) := by
  unfold e_taX
  exact cnd4 (TAo m) (fun _ => taXL_ok (nle_of hq) _ _ _ (by omega) (cpy43_c hC hC2) (cpy43_k hK hC hK2) (cpy43_f hC)) (fun _ => TAo.mk hC2 hK2 FB.refl (Or.inl rfl))
noncomputable def SQ (s : Int32) : Prop := ∃ v, v ≤ 401 ∧ s = Int32.ofNat v
theorem SQ.le1 {s : Int32} (h : SQ s) : (s - Int32.ofNat 1).toInt ≤ 400 := by
  obtain ⟨v, hv, rfl⟩ := h
  cases v with
  | zero => decide
  | succ w =>
    have e : Int32.ofNat (w + 1) = Int32.ofNat w + Int32.ofNat 1 := Int32.ofNat_add w 1
    show (Int32.ofNat (w + 1) - Int32.ofNat 1).toInt ≤ 400
    rw [e, Int32.add_sub_cancel, zoN (by omega)]
    omega
theorem SQ.of {s : Int32} (h : s = -1 ∨ ∃ v, v ≤ 400 ∧ s = Int32.ofNat v) (hn : s ≠ -1) : SQ s := by
  rcases h with h | ⟨v, hv, e⟩
  · exact absurd h hn
  · exact ⟨v, by omega, e⟩
end ZTA
noncomputable def xl_quickL (f : Int32) : Nat → Int32 → Int32 → Nat → (Nat → Nat → Int32) → Int32 × (Nat → Nat → Int32)
  | 0, a, s, k, m => (bif zc2 .ne a (-1) then (bif zc1 .eq f then (s, m) else (a, m)) else ((-1), m))
  | n + 1, a, s, k, m => (bif zc2 .eq (e_taX m ((Int32.ofNat k)) ((s - (Int32.ofNat 1)))).1 (-1) then (xl_quickL f n a s ((k + 1)) ((e_taX m ((Int32.ofNat k)) ((s - (Int32.ofNat 1)))).2)) else (xl_quickL f n ((Int32.ofNat k)) ((e_taX m ((Int32.ofNat k)) ((s - (Int32.ofNat 1)))).1) ((k + 1)) ((e_taX m ((Int32.ofNat k)) ((s - (Int32.ofNat 1)))).2)))
theorem xw_quickL {σ : Nat → Nat × (Nat → Int32)} {yy : (Nat → Nat → Int64) × Bool × Nat × Nat} {f : Int32} {d : Nat} (hd : 7 ≤ d + 1) : ∀ (n : Nat) (x1 : Option Value) (a : Int32) (s : Int32) (k : Nat) (x6 : Option Value) (m : Nat → Nat → Int32), k + n = 17 → CG m 1 → KX m 1 P0 → CG m 43 → KX m 43 P0 → SQ s → zEv σ (d + 1) 1623 23 [some (.ref 0), x1, some (.int f), some (.int a), some (.int s), some (.int (Int32.ofNat k)), x6] [] (zS1, m, yy) (.inl (some (.int (xl_quickL f n a s k m).1))) (zS1, ((xl_quickL f n a s k m).2), yy) := by
  intro n
  induction n with
  | zero =>
    intro x1 a s k x6 m hk hC hK hC2 hK2 hs
    refine zeP rfl rfl ?_
    refine zeKn (c := 16) rfl rfl rfl ?_
    refine zeT2 rfl rfl (zcgt (by omega) (by omega) (by omega)) ?_
    refine zeP rfl rfl ?_
    refine zeK (v := -1) rfl rfl rfl ?_
    refine zeB2 rfl rfl (fun h1 => ?_) (fun h1 => ?_)
    · refine zeP rfl rfl ?_
      refine zeB1 rfl rfl (fun h2 => ?_) (fun h2 => ?_)
      · refine zeP rfl rfl ?_
        exact zeRe rfl rfl rfl rfl (by simp only [xl_quickL, h1, h2, cond_true, cond_false] <;> rfl) (by simp only [xl_quickL, h1, h2, cond_true, cond_false] <;> rfl)
      · refine zeP rfl rfl ?_
        refine zeP rfl rfl ?_
        exact zeRe rfl rfl rfl rfl (by simp only [xl_quickL, h1, h2, cond_true, cond_false] <;> rfl) (by simp only [xl_quickL, h1, h2, cond_true, cond_false] <;> rfl)
    · refine zeK (v := -1) rfl rfl rfl ?_
      exact zeRe rfl rfl rfl rfl (by simp only [xl_quickL, h1, cond_true, cond_false] <;> rfl) (by simp only [xl_quickL, h1, cond_true, cond_false] <;> rfl)
  | succ n ih =>
    intro x1 a s k x6 m hk hC hK hC2 hK2 hs
    refine zeP rfl rfl ?_
    refine zeKn (c := 16) rfl rfl rfl ?_
    refine zeF2 rfl rfl (zcgt_f (by omega) (by omega) (by omega)) ?_
    refine zeP rfl rfl ?_
    refine zeK (v := -1) rfl rfl rfl ?_
    refine zeP rfl rfl ?_
    refine zeP rfl rfl ?_
    refine zeKn (c := 1) rfl rfl rfl ?_
    refine zeP rfl rfl ?_
    refine zeCV rfl rfl rfl rfl zS00 rfl (ec_taX (m := m) (x := (Int32.ofNat k)) (q := (s - (Int32.ofNat 1))) hC hK hC2 hK2 hs.le1) (by omega) ?_
    dsimp only [Option.toList, List.cons_append, List.nil_append]
    refine zeP rfl rfl ?_
    refine zeP rfl rfl ?_
    refine zeK (v := -1) rfl rfl rfl ?_
    refine zeB2 rfl rfl (fun h1 => ?_) (fun h1 => ?_)
    · refine zeInc rfl rfl ?_
      refine zeP rfl rfl ?_
      simp only [xl_quickL, h1, cond_true, cond_false]
      exact ih (x1) (a) (s) ((k + 1)) (some (.int (e_taX m ((Int32.ofNat k)) ((s - (Int32.ofNat 1)))).1))  ((e_taX m ((Int32.ofNat k)) ((s - (Int32.ofNat 1)))).2) (by omega) (hC.fb (taX_ok hC hK hC2 hK2 hs.le1).2.2.1 (Or.inl (by omega))) (hK.fb (taX_ok hC hK hC2 hK2 hs.le1).2.2.1 (Or.inl (by omega))) (taX_ok hC hK hC2 hK2 hs.le1).1 (taX_ok hC hK hC2 hK2 hs.le1).2.1 (by first | exact hs | exact SQ.of (taX_ok hC hK hC2 hK2 hs.le1).2.2.2 (ne1_of2 (by assumption)))
    · refine zeP rfl rfl ?_
      refine zeP rfl rfl ?_
      refine zeP rfl rfl ?_
      refine zeP rfl rfl ?_
      refine zeInc rfl rfl ?_
      refine zeP rfl rfl ?_
      simp only [xl_quickL, h1, cond_true, cond_false]
      exact ih (x1) ((Int32.ofNat k)) ((e_taX m ((Int32.ofNat k)) ((s - (Int32.ofNat 1)))).1) ((k + 1)) (some (.int (e_taX m ((Int32.ofNat k)) ((s - (Int32.ofNat 1)))).1))  ((e_taX m ((Int32.ofNat k)) ((s - (Int32.ofNat 1)))).2) (by omega) (hC.fb (taX_ok hC hK hC2 hK2 hs.le1).2.2.1 (Or.inl (by omega))) (hK.fb (taX_ok hC hK hC2 hK2 hs.le1).2.2.1 (Or.inl (by omega))) (taX_ok hC hK hC2 hK2 hs.le1).1 (taX_ok hC hK hC2 hK2 hs.le1).2.1 (by first | exact hs | exact SQ.of (taX_ok hC hK hC2 hK2 hs.le1).2.2.2 (ne1_of2 (by assumption)))
noncomputable def e_quickest (m : Nat → Nat → Int32) (x : Int32) : (Int32 ⊕ Nat) × (Nat → Nat → Int32) := (bif tOK x then (bif zc1 .ne (Int32.ofNat (x.toNatClampNeg)) then ((.inl (xl_quickL ((Int32.ofNat 0)) 17 ((-1)) ((Int32.ofNat 401)) 0 m).1), (xl_quickL ((Int32.ofNat 0)) 17 ((-1)) ((Int32.ofNat 401)) 0 m).2) else ((.inl (xl_quickL ((Int32.ofNat 1)) 17 ((-1)) ((Int32.ofNat 401)) 0 m).1), (xl_quickL ((Int32.ofNat 1)) 17 ((-1)) ((Int32.ofNat 401)) 0 m).2)) else ((.inr 1), m))
theorem ec_quickest {σ : Nat → Nat × (Nat → Int32)} {yy : (Nat → Nat → Int64) × Bool × Nat × Nat} {m : Nat → Nat → Int32} {x : Int32} (hC : CG m 1) (hK : KX m 1 P0) (hC2 : CG m 43) (hK2 : KX m 43 P0) : zF σ 7 1623 [.ref 0, .int x] (zS1, m, yy) (xo (e_quickest m x).1) (zS1, (e_quickest m x).2, (xy yy (e_quickest m x).1)) := by
  intro d hd
  obtain ⟨d, rfl⟩ : ∃ k, d = k + 1 := ⟨d - 1, by omega⟩
  show zEv σ (d + 1) 1623 0 [some (.ref 0), some (.int x), none, none, none, none, none] [] _ _ _
  refine zeP rfl rfl ?_
  cases h1 : tOK x with
  | false =>
    exact zeThX rfl rfl rfl rfl rfl rfl (xn_1640 (m := m) (x := x) h1) (by omega) rfl rfl (by simp only [e_quickest, h1, cond_true, cond_false] <;> rfl) (by simp only [e_quickest, h1, cond_true, cond_false] <;> rfl)
  | true =>
    have c1 := xk_1640 (x := x) h1
    refine zeCF rfl rfl rfl rfl rfl rfl (xo_1640 (m := m) (x := x) h1) (by omega) ?_
    dsimp only [Option.toList, List.cons_append, List.nil_append]
    refine zeB1 rfl rfl (fun h2 => ?_) (fun h2 => ?_)
    · refine zeKn (c := 0) rfl rfl rfl ?_
      refine zeP rfl rfl ?_
      refine zeK (v := -1) rfl rfl rfl ?_
      refine zeP rfl rfl ?_
      refine zeKn (c := 401) rfl rfl rfl ?_
      refine zeP rfl rfl ?_
      refine zeKn (c := 0) rfl rfl rfl ?_
      refine zeP rfl rfl ?_
      simp only [e_quickest, h1, h2, cond_true, cond_false]
      exact xw_quickL (f := (Int32.ofNat 0)) (by omega)  17 (some (.int x)) ((-1)) ((Int32.ofNat 401)) (0) (none)  m (by omega) hC hK hC2 hK2 ⟨401, by omega, rfl⟩
    · refine zeKn (c := 1) rfl rfl rfl ?_
      refine zeP rfl rfl ?_
      refine zeP rfl rfl ?_
      refine zeK (v := -1) rfl rfl rfl ?_
      refine zeP rfl rfl ?_
      refine zeKn (c := 401) rfl rfl rfl ?_
      refine zeP rfl rfl ?_
      refine zeKn (c := 0) rfl rfl rfl ?_
      refine zeP rfl rfl ?_
      simp only [e_quickest, h1, h2, cond_true, cond_false]
      exact xw_quickL (f := (Int32.ofNat 1)) (by omega)  17 (some (.int x)) ((-1)) ((Int32.ofNat 401)) (0) (none)  m (by omega) hC hK hC2 hK2 ⟨401, by omega, rfl⟩
theorem zeDec {σ : Nat → Nat × (Nat → Int32)} {d j pc a k : Nat} {n : Int} {w : Int32} {lv : zLv} {r : List Value} {M M' : zMem} {o : zO} (hf : zfe j pc = some (.iinc k n, 3)) (hl : lv[k]? = some (some (.int (Int32.ofNat a)))) (he : Int32.ofNat a + Int32.ofInt n = w) (kk : zEv σ d j (pc + 3) (lv.set k (some (.int w))) r M o M') : zEv σ d j pc lv r M o M' := by
  subst he
  refine zeP hf ?_ kk
  simp only [zP, hl] <;> rfl
theorem zx_f0 (m : Nat → Nat → Int32) (k l : Nat) (x : Int32) : zm2 m 127 k x 0 l = m 0 l := zx_ne _ _ _ (by decide)
noncomputable def e_feed1 (m : Nat → Nat → Int32) (x : Int32) (n : Nat) : (Nat → Nat → Int32) := (zm2 ((zm2 ((zm2 ((zm2 ((zm2 ((zm2 ((zm2 ((zm2 m 127 n (vp_nar .byte (((x >>> ((Int32.ofNat 24) &&& 31))).toInt8.toInt32)))) 0 5 ((Int32.ofNat (n + 1))))) 127 ((n + 1)) (vp_nar .byte (((x >>> ((Int32.ofNat 16) &&& 31))).toInt8.toInt32)))) 0 5 ((Int32.ofNat ((n + 1) + 1))))) 127 (((n + 1) + 1)) (vp_nar .byte (((x >>> ((Int32.ofNat 8) &&& 31))).toInt8.toInt32)))) 0 5 ((Int32.ofNat (((n + 1) + 1) + 1))))) 127 ((((n + 1) + 1) + 1)) (vp_nar .byte (((x >>> ((Int32.ofNat 0) &&& 31))).toInt8.toInt32)))) 0 5 ((Int32.ofNat ((((n + 1) + 1) + 1) + 1))))
theorem ec_feed1 {σ : Nat → Nat × (Nat → Int32)} {yy : (Nat → Nat → Int64) × Bool × Nat × Nat} {m : Nat → Nat → Int32} {x : Int32} {n : Nat} (h5 : m 0 5 = Int32.ofNat n) (hn : n + 4 ≤ 400) : zF σ 1 1602 [.ref 0, .int x] (zS1, m, yy) (.inl none) (zS1, (e_feed1 m x n), yy) := by
  intro d hd
  obtain ⟨d, rfl⟩ : ∃ k, d = k + 1 := ⟨d - 1, by omega⟩
  show zEv σ (d + 1) 1602 0 [some (.ref 0), some (.int x), none] [] _ _ _
  refine zeKn (c := 24) rfl rfl rfl ?_
  refine zeP rfl rfl ?_
  refine zeP rfl rfl ?_
  refine zeF1 rfl rfl (show zc1 .lt (Int32.ofNat 24) = false by decide) ?_
  refine zeP rfl rfl ?_
  refine zeGI rfl rfl zS00 rfl rfl ?_
  rw [(show (m 0 5) = Int32.ofNat n from (by simp only [zx_at, zx_f0, h5]))]
  refine zeKn (c := 400) rfl rfl rfl ?_
  refine zeF2 rfl rfl (zcge_f (by omega) (by omega) (by omega)) ?_
  refine zeP rfl rfl ?_
  refine zeGR rfl rfl zS00 rfl rfl ?_
  refine zeP rfl rfl ?_
  refine zeGI rfl rfl zS00 rfl rfl ?_
  rw [(show (m 0 5) = Int32.ofNat n from (by simp only [zx_at, zx_f0, h5]))]
  refine zeP rfl rfl ?_
  refine zeP rfl rfl ?_
  refine zeP rfl rfl ?_
  refine zeP rfl rfl ?_
  refine zeBS (k := n) rfl zS127 rfl (by omega) ?_
  refine zeP rfl rfl ?_
  refine zeP rfl rfl ?_
  refine zeGI rfl rfl zS00 rfl rfl ?_
  rw [(show (((zm2 m 127 n (vp_nar .byte (((x >>> ((Int32.ofNat 24) &&& 31))).toInt8.toInt32)))) 0 5) = Int32.ofNat n from (by simp only [zx_at, zx_f0, h5]))]
  refine zeKn (c := 1) rfl rfl rfl ?_
  refine zeAdd rfl ?_
  refine zePI rfl rfl zS00 rfl ?_
  refine zeDec (w := (Int32.ofNat 16)) rfl rfl (by decide) ?_
  refine zeP rfl rfl ?_
  refine zeP rfl rfl ?_
  refine zeF1 rfl rfl (show zc1 .lt (Int32.ofNat 16) = false by decide) ?_
  refine zeP rfl rfl ?_
  refine zeGI rfl rfl zS00 rfl rfl ?_
  rw [(show (((zm2 ((zm2 m 127 n (vp_nar .byte (((x >>> ((Int32.ofNat 24) &&& 31))).toInt8.toInt32)))) 0 5 ((Int32.ofNat (n + 1))))) 0 5) = Int32.ofNat (n + 1) from (by simp only [zx_at, zx_f0, h5]))]
  refine zeKn (c := 400) rfl rfl rfl ?_
  refine zeF2 rfl rfl (zcge_f (by omega) (by omega) (by omega)) ?_
  refine zeP rfl rfl ?_
  refine zeGR rfl rfl zS00 rfl rfl ?_
  refine zeP rfl rfl ?_
  refine zeGI rfl rfl zS00 rfl rfl ?_
  rw [(show (((zm2 ((zm2 m 127 n (vp_nar .byte (((x >>> ((Int32.ofNat 24) &&& 31))).toInt8.toInt32)))) 0 5 ((Int32.ofNat (n + 1))))) 0 5) = Int32.ofNat (n + 1) from (by simp only [zx_at, zx_f0, h5]))]
  refine zeP rfl rfl ?_
  refine zeP rfl rfl ?_
  refine zeP rfl rfl ?_
  refine zeP rfl rfl ?_
  refine zeBS (k := (n + 1)) rfl zS127 rfl (by omega) ?_
  refine zeP rfl rfl ?_
  refine zeP rfl rfl ?_
  refine zeGI rfl rfl zS00 rfl rfl ?_
  rw [(show (((zm2 ((zm2 ((zm2 m 127 n (vp_nar .byte (((x >>> ((Int32.ofNat 24) &&& 31))).toInt8.toInt32)))) 0 5 ((Int32.ofNat (n + 1))))) 127 ((n + 1)) (vp_nar .byte (((x >>> ((Int32.ofNat 16) &&& 31))).toInt8.toInt32)))) 0 5) = Int32.ofNat (n + 1) from (by simp only [zx_at, zx_f0, h5]))]
  refine zeKn (c := 1) rfl rfl rfl ?_
  refine zeAdd rfl ?_
  refine zePI rfl rfl zS00 rfl ?_
  refine zeDec (w := (Int32.ofNat 8)) rfl rfl (by decide) ?_
  refine zeP rfl rfl ?_
  refine zeP rfl rfl ?_
  refine zeF1 rfl rfl (show zc1 .lt (Int32.ofNat 8) = false by decide) ?_
  refine zeP rfl rfl ?_
  refine zeGI rfl rfl zS00 rfl rfl ?_
  rw [(show (((zm2 ((zm2 ((zm2 ((zm2 m 127 n (vp_nar .byte (((x >>> ((Int32.ofNat 24) &&& 31))).toInt8.toInt32)))) 0 5 ((Int32.ofNat (n + 1))))) 127 ((n + 1)) (vp_nar .byte (((x >>> ((Int32.ofNat 16) &&& 31))).toInt8.toInt32)))) 0 5 ((Int32.ofNat ((n + 1) + 1))))) 0 5) = Int32.ofNat ((n + 1) + 1) from (by simp only [zx_at, zx_f0, h5]))]
  refine zeKn (c := 400) rfl rfl rfl ?_
  refine zeF2 rfl rfl (zcge_f (by omega) (by omega) (by omega)) ?_
  refine zeP rfl rfl ?_
  refine zeGR rfl rfl zS00 rfl rfl ?_
  refine zeP rfl rfl ?_
  refine zeGI rfl rfl zS00 rfl rfl ?_
  rw [(show (((zm2 ((zm2 ((zm2 ((zm2 m 127 n (vp_nar .byte (((x >>> ((Int32.ofNat 24) &&& 31))).toInt8.toInt32)))) 0 5 ((Int32.ofNat (n + 1))))) 127 ((n + 1)) (vp_nar .byte (((x >>> ((Int32.ofNat 16) &&& 31))).toInt8.toInt32)))) 0 5 ((Int32.ofNat ((n + 1) + 1))))) 0 5) = Int32.ofNat ((n + 1) + 1) from (by simp only [zx_at, zx_f0, h5]))]
  refine zeP rfl rfl ?_
  refine zeP rfl rfl ?_
  refine zeP rfl rfl ?_
  refine zeP rfl rfl ?_
  refine zeBS (k := ((n + 1) + 1)) rfl zS127 rfl (by omega) ?_
  refine zeP rfl rfl ?_
  refine zeP rfl rfl ?_
  refine zeGI rfl rfl zS00 rfl rfl ?_
  rw [(show (((zm2 ((zm2 ((zm2 ((zm2 ((zm2 m 127 n (vp_nar .byte (((x >>> ((Int32.ofNat 24) &&& 31))).toInt8.toInt32)))) 0 5 ((Int32.ofNat (n + 1))))) 127 ((n + 1)) (vp_nar .byte (((x >>> ((Int32.ofNat 16) &&& 31))).toInt8.toInt32)))) 0 5 ((Int32.ofNat ((n + 1) + 1))))) 127 (((n + 1) + 1)) (vp_nar .byte (((x >>> ((Int32.ofNat 8) &&& 31))).toInt8.toInt32)))) 0 5) = Int32.ofNat ((n + 1) + 1) from (by simp only [zx_at, zx_f0, h5]))]
  refine zeKn (c := 1) rfl rfl rfl ?_
  refine zeAdd rfl ?_
  refine zePI rfl rfl zS00 rfl ?_
  refine zeDec (w := (Int32.ofNat 0)) rfl rfl (by decide) ?_
  refine zeP rfl rfl ?_
  refine zeP rfl rfl ?_
  refine zeF1 rfl rfl (show zc1 .lt (Int32.ofNat 0) = false by decide) ?_
  refine zeP rfl rfl ?_
  refine zeGI rfl rfl zS00 rfl rfl ?_
  rw [(show (((zm2 ((zm2 ((zm2 ((zm2 ((zm2 ((zm2 m 127 n (vp_nar .byte (((x >>> ((Int32.ofNat 24) &&& 31))).toInt8.toInt32)))) 0 5 ((Int32.ofNat (n + 1))))) 127 ((n + 1)) (vp_nar .byte (((x >>> ((Int32.ofNat 16) &&& 31))).toInt8.toInt32)))) 0 5 ((Int32.ofNat ((n + 1) + 1))))) 127 (((n + 1) + 1)) (vp_nar .byte (((x >>> ((Int32.ofNat 8) &&& 31))).toInt8.toInt32)))) 0 5 ((Int32.ofNat (((n + 1) + 1) + 1))))) 0 5) = Int32.ofNat (((n + 1) + 1) + 1) from (by simp only [zx_at, zx_f0, h5]))]
  refine zeKn (c := 400) rfl rfl rfl ?_
  refine zeF2 rfl rfl (zcge_f (by omega) (by omega) (by omega)) ?_
  refine zeP rfl rfl ?_
  refine zeGR rfl rfl zS00 rfl rfl ?_
  refine zeP rfl rfl ?_
  refine zeGI rfl rfl zS00 rfl rfl ?_
  rw [(show (((zm2 ((zm2 ((zm2 ((zm2 ((zm2 ((zm2 m 127 n (vp_nar .byte (((x >>> ((Int32.ofNat 24) &&& 31))).toInt8.toInt32)))) 0 5 ((Int32.ofNat (n + 1))))) 127 ((n + 1)) (vp_nar .byte (((x >>> ((Int32.ofNat 16) &&& 31))).toInt8.toInt32)))) 0 5 ((Int32.ofNat ((n + 1) + 1))))) 127 (((n + 1) + 1)) (vp_nar .byte (((x >>> ((Int32.ofNat 8) &&& 31))).toInt8.toInt32)))) 0 5 ((Int32.ofNat (((n + 1) + 1) + 1))))) 0 5) = Int32.ofNat (((n + 1) + 1) + 1) from (by simp only [zx_at, zx_f0, h5]))]
  refine zeP rfl rfl ?_
  refine zeP rfl rfl ?_
  refine zeP rfl rfl ?_
  refine zeP rfl rfl ?_
  refine zeBS (k := (((n + 1) + 1) + 1)) rfl zS127 rfl (by omega) ?_
  refine zeP rfl rfl ?_
  refine zeP rfl rfl ?_
  refine zeGI rfl rfl zS00 rfl rfl ?_
  rw [(show (((zm2 ((zm2 ((zm2 ((zm2 ((zm2 ((zm2 ((zm2 m 127 n (vp_nar .byte (((x >>> ((Int32.ofNat 24) &&& 31))).toInt8.toInt32)))) 0 5 ((Int32.ofNat (n + 1))))) 127 ((n + 1)) (vp_nar .byte (((x >>> ((Int32.ofNat 16) &&& 31))).toInt8.toInt32)))) 0 5 ((Int32.ofNat ((n + 1) + 1))))) 127 (((n + 1) + 1)) (vp_nar .byte (((x >>> ((Int32.ofNat 8) &&& 31))).toInt8.toInt32)))) 0 5 ((Int32.ofNat (((n + 1) + 1) + 1))))) 127 ((((n + 1) + 1) + 1)) (vp_nar .byte (((x >>> ((Int32.ofNat 0) &&& 31))).toInt8.toInt32)))) 0 5) = Int32.ofNat (((n + 1) + 1) + 1) from (by simp only [zx_at, zx_f0, h5]))]
  refine zeKn (c := 1) rfl rfl rfl ?_
  refine zeAdd rfl ?_
  refine zePI rfl rfl zS00 rfl ?_
  refine zeDec (w := (-8)) rfl rfl (by decide) ?_
  refine zeP rfl rfl ?_
  refine zeP rfl rfl ?_
  refine zeT1 rfl rfl (show zc1 .lt (-8) = true by decide) ?_
  exact zeRe rfl rfl rfl rfl (by rfl) (by rfl)
theorem feed1_5 {m : Nat → Nat → Int32} {x : Int32} {n : Nat} : e_feed1 m x n 0 5 = Int32.ofNat (n + 4) := by
  unfold e_feed1
  exact zx_at _ _ _ _
theorem feed1_i {m : Nat → Nat → Int32} {x : Int32} {n i l : Nat} (h1 : i ≠ 127) (h2 : i ≠ 0 ∨ l ≠ 5) : e_feed1 m x n i l = m i l := by
  unfold e_feed1
  have g : ∀ (m : Nat → Nat → Int32) y, zm2 m 0 5 y i l = m i l := fun m y => zx_o _ _ (by omega)
  have f : ∀ (m : Nat → Nat → Int32) k y, zm2 m 127 k y i l = m i l := fun m k y => zx_ne _ _ _ h1
  simp only [g, f]
noncomputable def e_feed (m : Nat → Nat → Int32) (a : Int32) (b : Int32) (c : Int32) (e : Int32) (f : Int32) (n : Nat) : Int32 × (Nat → Nat → Int32) := (bif zc2 .le (Int32.ofNat (n + 20)) (Int32.ofNat 400) then ((Int32.ofNat (n + 20)), (e_feed1 ((e_feed1 ((e_feed1 ((e_feed1 ((e_feed1 m a n)) b ((n + 4)))) c ((n + 8)))) e ((n + 12)))) f ((n + 16)))) else ((-1), m))
theorem ec_feed {σ : Nat → Nat × (Nat → Int32)} {yy : (Nat → Nat → Int64) × Bool × Nat × Nat} {m : Nat → Nat → Int32} {a : Int32} {b : Int32} {c : Int32} {e : Int32} {f : Int32} {n : Nat} (h5 : m 0 5 = Int32.ofNat n) (hn : n ≤ 400) : zF σ 2 1601 [.ref 0, .int a, .int b, .int c, .int e, .int f] (zS1, m, yy) (.inl (some (.int (e_feed m a b c e f n).1))) (zS1, (e_feed m a b c e f n).2, yy) := by
  intro d hd
  obtain ⟨d, rfl⟩ : ∃ k, d = k + 1 := ⟨d - 1, by omega⟩
  show zEv σ (d + 1) 1601 0 [some (.ref 0), some (.int a), some (.int b), some (.int c), some (.int e), some (.int f)] [] _ _ _
  refine zeP rfl rfl ?_
  refine zeGI rfl rfl zS00 rfl rfl ?_
  rw [h5]
  refine zeKn (c := 20) rfl rfl rfl ?_
  refine zeAdd rfl ?_
  refine zeKn (c := 400) rfl rfl rfl ?_
  refine zeB2 rfl rfl (fun h1 => ?_) (fun h1 => ?_)
  · have h20 := tle_t (by omega) (by omega) h1
    refine zeP rfl rfl ?_
    refine zeP rfl rfl ?_
    refine zeCV rfl rfl rfl rfl zS00 rfl (ec_feed1 (m := m) (x := a) (n := n) h5 (by omega)) (by omega) ?_
    dsimp only [Option.toList, List.cons_append, List.nil_append]
    refine zeP rfl rfl ?_
    refine zeP rfl rfl ?_
    refine zeCV rfl rfl rfl rfl zS00 rfl (ec_feed1 (m := (e_feed1 m a n)) (x := b) (n := (n + 4)) feed1_5 (by omega)) (by omega) ?_
    dsimp only [Option.toList, List.cons_append, List.nil_append]
    refine zeP rfl rfl ?_
    refine zeP rfl rfl ?_
    refine zeCV rfl rfl rfl rfl zS00 rfl (ec_feed1 (m := (e_feed1 ((e_feed1 m a n)) b ((n + 4)))) (x := c) (n := (n + 8)) feed1_5 (by omega)) (by omega) ?_
    dsimp only [Option.toList, List.cons_append, List.nil_append]
    refine zeP rfl rfl ?_
    refine zeP rfl rfl ?_
    refine zeCV rfl rfl rfl rfl zS00 rfl (ec_feed1 (m := (e_feed1 ((e_feed1 ((e_feed1 m a n)) b ((n + 4)))) c ((n + 8)))) (x := e) (n := (n + 12)) feed1_5 (by omega)) (by omega) ?_
    dsimp only [Option.toList, List.cons_append, List.nil_append]
    refine zeP rfl rfl ?_
    refine zeP rfl rfl ?_
    refine zeCV rfl rfl rfl rfl zS00 rfl (ec_feed1 (m := (e_feed1 ((e_feed1 ((e_feed1 ((e_feed1 m a n)) b ((n + 4)))) c ((n + 8)))) e ((n + 12)))) (x := f) (n := (n + 16)) feed1_5 (by omega)) (by omega) ?_
    dsimp only [Option.toList, List.cons_append, List.nil_append]
    refine zeP rfl rfl ?_
    refine zeGI rfl rfl zS00 rfl rfl ?_
    rw [feed1_5]
    exact zeRe rfl rfl rfl rfl (by simp only [e_feed, h1, cond_true, cond_false] <;> rfl) (by simp only [e_feed, h1, cond_true, cond_false] <;> rfl)
  · refine zeK (v := -1) rfl rfl rfl ?_
    exact zeRe rfl rfl rfl rfl (by simp only [e_feed, h1, cond_true, cond_false] <;> rfl) (by simp only [e_feed, h1, cond_true, cond_false] <;> rfl)
end
section
/-! reading a text changes the draft alone -/
noncomputable def YF (P : Nat → Nat → Int32) (X : Int32 × (Nat → Nat → Int32) × Nat × Nat) : Prop := FB X.2.1 43 P
theorem YF.mk {P : Nat → Nat → Int32} {v : Int32} {m : Nat → Nat → Int32} {p b : Nat} (h : FB m 43 P) : YF P (v, m, p, b) := h
section ZYF
variable {T : Nat → Int32} {e : Nat} {m P : Nat → Nat → Int32} {p b t : Nat}
theorem readTerm_YF (h : FB m 43 P) : YF P (y_readTerm T e m p b t) := by
  have a : ∀ lo hi x, YF P (Int32.ofNat 1, zm2 m (43 + 3) t x, (y_readNumber T e p lo hi).2.1, (y_readNumber T e p lo hi).2.2) := fun lo hi x => YF.mk (h.put _ ⟨by omega, by omega⟩)
  have c : ∀ lo hi, YF P (Int32.ofNat 0, m, (y_readNumber T e p lo hi).2.1, (y_readNumber T e p lo hi).2.2) := fun lo hi => YF.mk h
  unfold y_readTerm
  exact cnd4 (YF P) (fun _ => cnd4 (YF P) (fun _ => a _ _ _) (fun _ => c _ _)) (fun _ => cnd4 (YF P) (fun _ => cnd4 (YF P) (fun _ => a _ _ _) (fun _ => c _ _)) (fun _ => YF.mk h))
theorem readTrustL_YF {v : Int32} : ∀ (n l : Nat) (m : Nat → Nat → Int32), l + n = 4 → FB m 43 P → FB (yl_readTrust v n l m).2 43 P := by
  intro n
  induction n with
  | zero => intro l m _ h; exact h
  | succ n ih => intro l m hk h; exact ih _ _ (by omega) (h.put _ ⟨by omega, by omega⟩)
theorem readTrust_YF (h : FB m 43 P) : YF P (y_readTrust T e m p) := by
  unfold y_readTrust
  exact cnd4 (YF P) (fun _ => YF.mk (readTrustL_YF 4 0 m rfl h)) (fun _ => YF.mk h)
theorem readWord_YF (h : FB m 43 P) : YF P (y_readWord T e m p) := by
  unfold y_readWord
  exact cnd4 (YF P) (fun _ => cnd4 (YF P) (fun _ => YF.mk ((h.put _ ⟨by omega, by omega⟩).put _ ⟨by omega, by omega⟩)) (fun _ => YF.mk h)) (fun _ => YF.mk h)
theorem readLock_YF (h : FB m 43 P) : YF P (y_readLock T e m p) := by
  unfold y_readLock
  refine cnd4 (YF P) (fun _ => YF.mk h) (fun k1 => cnd4 (YF P) (fun _ => cnd4 (YF P) (fun _ => YF.mk h) (fun k3 => cnd4 (YF P) (fun _ => ?_) (fun _ => YF.mk h))) (fun _ => YF.mk h))
  have g1 := ynum_k (by omega) (by omega) (zeq_f k1)
  exact YF.mk (h.put _ ⟨by omega, by omega⟩)
theorem FB.addDeed {x y : Int32} (h : FB m 43 P) (ht : t < 4) : FB (x_addDeed m 43 t x y) 43 P := fun i l hi => (addDeed_ne (by omega)).trans (h i l hi)
theorem FB.clear (h : FB m 43 P) (ht : t < 4) : FB (x_clear m 43 t) 43 P := fun i l hi => (clear_ne (by omega)).trans (h i l hi)
theorem readDeed_YF (ht : t < 4) (h : FB m 43 P) : YF P (y_readDeed T e m p t) := by
  have hx : ∀ x y, FB (x_addDeed m 43 t x y) 43 P := fun x y => h.addDeed ht
  unfold y_readDeed
  exact cnd4 (YF P) (fun _ => YF.mk h) (fun _ => cnd4 (YF P) (fun _ => cnd4 (YF P) (fun _ => cnd4 (YF P) (fun _ => YF.mk (hx _ _)) (fun _ => YF.mk h)) (fun _ => YF.mk (hx _ _))) (fun _ => YF.mk h))
theorem prog_YF (ht : t < 4) : ∀ (n k : Nat) (m : Nat → Nat → Int32) (p b : Nat), FB m 43 P → YF P (yl_prog T e t n k m p b) := by
  intro n
  induction n with
  | zero => intro k m p b h; exact YF.mk h
  | succ n ih =>
    intro k m p b h
    have r : FB (y_readDeed T e m p t).2.1 43 P := readDeed_YF ht h
    unfold yl_prog
    exact cnd4 (YF P) (fun _ => cnd4 (YF P) (fun _ => ih _ _ _ _ r) (fun _ => YF.mk r)) (fun _ => YF.mk r)
theorem readProgram_YF (h : FB m 43 P) (hc : CG m 43) : YF P (y_readProgram T e m p b) := by
  unfold y_readProgram
  refine cnd4 (YF P) (fun h4 => ?_) (fun _ => YF.mk h)
  have h5 := hc.c4
  have hlt := zlt_t4 (by omega) (by omega) h4
  exact prog_YF hlt _ _ _ _ _ ((h.clear hlt).put _ ⟨by omega, by omega⟩)
theorem line_YF {K : Nat} (h : FB m 43 P) (hc : CG m 43) : YF P (y_line T e m p b K) := by
  have u : ∀ x, YF P (Int32.ofNat 1, zm2 m (43 + 3) 8 x, p, b) := fun x => YF.mk (h.put _ ⟨by omega, by omega⟩)
  unfold y_line
  split
  · exact readTrust_YF h
  · exact readWord_YF h
  · exact u _
  · exact u _
  · exact readLock_YF h
  · split
    · exact readTerm_YF h
    · exact readProgram_YF h hc
theorem readLine_YF (h : FB m 43 P) (hc : CG m 43) : YF P (y_readLine T e m p) := by
  unfold y_readLine
  exact cnd4 (YF P) (fun _ => YF.mk h) (fun _ => line_YF h hc)
/-- the whole of a reading: the draft in order, nothing else touched, the answer none or a place -/
noncomputable def YA (T : Nat → Int32) (e : Nat) (P : Nat → Nat → Int32) (X : Int32 × (Nat → Nat → Int32) × Nat × Nat) : Prop := XR X.2.1 T e ∧ CG X.2.1 43 ∧ KX X.2.1 43 P0 ∧ FB X.2.1 43 P ∧ X.2.2.1 ≤ e ∧ X.2.2.2 ≤ e
theorem YA.mk {v : Int32} (h0 : XR m T e) (h4 : CG m 43) (h5 : KX m 43 P0) (h : FB m 43 P) (hp : p ≤ e) (hb : b ≤ e) : YA T e P (v, m, p, b) := ⟨h0, h4, h5, h, hp, hb⟩
theorem all_YA : ∀ (n k : Nat) (m : Nat → Nat → Int32) (p b : Nat), XR m T e → p ≤ e → CG m 43 → KX m 43 P0 → FB m 43 P → YA T e P (yl_all T e n k m p b) := by
  intro n
  induction n with
  | zero =>
    intro k m p b hG hp hc hk h
    have g := lkB_le (T := T) hG.2.2 hp
    exact YA.mk hG hc hk h g.2 g.2
  | succ n ih =>
    intro k m p b hG hp hc hk h
    obtain ⟨⟨r1, r2, r3, r4⟩, r5, r6⟩ := readLine_YC (T := T) (e := e) hG hp hc hk
    have r7 : FB (y_readLine T e m p).2.1 43 P := readLine_YF h hc
    have g := lkB_le (T := T) hG.2.2 r2
    have g2 := yskip_le (T := T) (c := 59) hG.2.2 g.2
    unfold yl_all
    exact cnd4 (YA T e P) (fun _ => cnd4 (YA T e P) (fun _ => cnd4 (YA T e P) (fun _ => ih _ _ _ _ r1 g2.2 r5 r6 r7) (fun _ => YA.mk r1 r5 r6 r7 g2.2 g.2)) (fun _ => YA.mk r1 r5 r6 r7 g.2 g.2)) (fun _ => YA.mk r1 r5 r6 r7 r2 (by omega))
theorem readAll_YA (hG : XR m T e) (hp : p ≤ e) (hc : CG m 43) (hk : KX m 43 P0) (h : FB m 43 P) : YA T e P (y_readAll18 T e m p) := by
  unfold y_readAll18
  have g := lkB_le (T := T) hG.2.2 hp
  exact cnd4 (YA T e P) (fun _ => all_YA _ _ _ _ _ hG g.2 hc hk h) (fun _ => YA.mk hG hc hk h g.2 g.2)
end ZYF
end
