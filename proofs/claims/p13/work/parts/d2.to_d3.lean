/-! d2.cls d3.fb -/
section
theorem zne_eq {a c : Nat} (ha : a < 2147483648) (hc : c < 2147483648) (h : zc2 .ne (Int32.ofNat a) (Int32.ofNat c) = false) : a = c := by
  have e := of_decide_eq_false h
  have e2 : Int32.ofNat a = Int32.ofNat c := Classical.byContradiction (fun q => e q)
  have e3 := congrArg Int32.toInt e2
  rw [zoN ha, zoN hc] at e3
  omega
noncomputable def xl_blocksL0 (m : Nat → Nat → Int32) (b : Nat) (t : Nat) : Nat → Int32 → Nat → Int32
  | 0, a, k => a
  | n + 1, a, k => (bif zc2 .ne (Int32.ofNat (mv m (b + 11 + 7 * t) k)) (Int32.ofNat 0) then (xl_blocksL0 m b t n a ((k + 1))) else (xl_blocksL0 m b t n ((a ||| (x_blockBit m b ((m ((b + 5 + ((mv m (b + 12 + 7 * t) k)))) 0))))) ((k + 1))))
theorem xw_blocksL0 {σ : Nat → Nat × (Nat → Int32)} {yy : (Nat → Nat → Int64) × Bool × Nat × Nat} {m : Nat → Nat → Int32} {b : Nat} {t : Nat} {d : Nat} (hd : 2 ≤ d + 1) (hb : BB b) (ht : t < 4) (hD : DT m b t) (h24 : mv m (b + 10 + 7 * t) 2 ≤ 24) : ∀ (n : Nat) (a : Int32) (k : Nat) (x5 : Option Value) (x6 : Option Value), k + n = mv m (b + 10 + 7 * t) 2 → zEv σ (d + 1) 625 5 [some (.ref b), some (.ref (b + 10 + 7 * t)), some (.int (Int32.ofNat 0)), some (.int a), some (.int (Int32.ofNat k)), x5, x6] [] (zS1, m, yy) (.inl (some (.int (xl_blocksL0 m b t n a k)))) (zS1, m, yy) := by
  intro n
  induction n with
  | zero =>
    intro a k x5 x6 hk
    refine zeP rfl rfl ?_
    refine zeP rfl rfl ?_
    refine zeGI rfl rfl (shS hb (by omega)) rfl rfl ?_
    rw [hD.1.1]
    refine zeT2 rfl rfl (zcge (by omega) (by omega) (by omega)) ?_
    refine zeP rfl rfl ?_
    exact zeRe rfl rfl rfl rfl (by rfl) (by rfl)
  | succ n ih =>
    intro a k x5 x6 hk
    refine zeP rfl rfl ?_
    refine zeP rfl rfl ?_
    refine zeGI rfl rfl (shS hb (by omega)) rfl rfl ?_
    rw [hD.1.1]
    refine zeF2 rfl rfl (zcge_f (by omega) (by omega) (by omega)) ?_
    refine zeP rfl rfl ?_
    refine zeP rfl rfl ?_
    refine zeCV rfl rfl rfl rfl (shS hb (by omega)) rfl (xc_kindAt (m := m) (b := b) (t := t) (p := k) hb ht (by omega)) (by omega) ?_
    dsimp only [Option.toList, List.cons_append, List.nil_append]
    rw [(show x_kindAt m b t k = Int32.ofNat (mv m (b + 11 + 7 * t) k) from (hD.2.2.2.2 k (by omega)).1.1)]
    refine zeP rfl rfl ?_
    refine zeB2 rfl rfl (fun h1 => ?_) (fun h1 => ?_)
    · refine zeInc rfl rfl ?_
      refine zeP rfl rfl ?_
      simp only [xl_blocksL0, h1, cond_true, cond_false]
      exact ih (a) ((k + 1)) (x5) (x6)   (by omega) 
    · refine zeP rfl rfl ?_
      refine zeP rfl rfl ?_
      refine zeCV rfl rfl rfl rfl (shS hb (by omega)) rfl (xc_numberAt (m := m) (b := b) (t := t) (p := k) hb ht (by omega)) (by omega) ?_
      dsimp only [Option.toList, List.cons_append, List.nil_append]
      rw [(show x_numberAt m b t k = Int32.ofNat (mv m (b + 12 + 7 * t) k) from (hD.2.2.2.2 k (by omega)).2.1.1)]
      refine zeP rfl rfl ?_
      refine zeP rfl rfl ?_
      refine zeT1 rfl rfl (show zc1 .eq (Int32.ofNat 0) = true by decide) ?_
      refine zeKn (c := 1) rfl rfl rfl ?_
      refine zeP rfl rfl ?_
      refine zeP rfl rfl ?_
      have hq4 : mv m (b + 12 + 7 * t) k < 4 := by
        have e1 := zne_eq (a := mv m (b + 11 + 7 * t) k) (c := 0) (by have := (hD.2.2.2.2 k (by omega)).1.2; omega) (by omega) (by assumption)
        have e2 := (hD.2.2.2.2 k (by omega)).2.2.1
        omega
      refine zeP rfl rfl ?_
      refine zeP rfl rfl ?_
      refine zeP rfl rfl ?_
      refine zeF1 rfl rfl (show zc1 .eq (Int32.ofNat 1) = false by decide) ?_
      refine zeP rfl rfl ?_
      refine zeP rfl rfl ?_
      refine zeCV rfl rfl rfl rfl (shM hb) rfl (xc_lockAt (m := m) (b := b) (l := (mv m (b + 12 + 7 * t) k)) hb hq4) (by omega) ?_
      dsimp only [Option.toList, List.cons_append, List.nil_append]
      refine zeGI rfl rfl (shL hb (by omega)) rfl rfl ?_
      refine zeP rfl rfl ?_
      refine zeCV rfl rfl rfl rfl (shM hb) rfl (xc_blockBit (m := m) (b := b) (w := (m ((b + 5 + ((mv m (b + 12 + 7 * t) k)))) 0)) hb) (by omega) ?_
      dsimp only [Option.toList, List.cons_append, List.nil_append]
      refine zeP rfl rfl ?_
      refine zeP rfl rfl ?_
      refine zeInc rfl rfl ?_
      refine zeP rfl rfl ?_
      simp only [xl_blocksL0, h1, cond_true, cond_false]
      exact ih ((a ||| (x_blockBit m b ((m ((b + 5 + ((mv m (b + 12 + 7 * t) k)))) 0))))) ((k + 1)) (some (.int (Int32.ofNat (mv m (b + 12 + 7 * t) k)))) (some (.int (Int32.ofNat 1)))   (by omega) 
noncomputable def x_blocksOf0 (m : Nat → Nat → Int32) (b : Nat) (t : Nat) : Int32 := (xl_blocksL0 m b t ((mv m (b + 10 + 7 * t) 2)) ((Int32.ofNat 0)) 0)
theorem xp_blocksOf0 {σ : Nat → Nat × (Nat → Int32)} {yy : (Nat → Nat → Int64) × Bool × Nat × Nat} {m : Nat → Nat → Int32} {b : Nat} {t : Nat} {d : Nat} (hd : 2 ≤ d + 1) (hb : BB b) (ht : t < 4) (hD : DT m b t) : zEv σ (d + 1) 625 0 [some (.ref b), some (.ref (b + 10 + 7 * t)), some (.int (Int32.ofNat 0)), none, none, none, none] [] (zS1, m, yy) (.inl (some (.int (x_blocksOf0 m b t)))) (zS1, m, yy) := by
  refine zeKn (c := 0) rfl rfl rfl ?_
  refine zeP rfl rfl ?_
  refine zeKn (c := 0) rfl rfl rfl ?_
  refine zeP rfl rfl ?_
  simp only [x_blocksOf0, cond_true, cond_false]
  exact xw_blocksL0 (b := b) (t := t) (m := m) (by omega) hb ht hD hD.1.2 ((mv m (b + 10 + 7 * t) 2)) ((Int32.ofNat 0)) (0) (none) (none)   (by omega) 
theorem xc_blocksOf0 {σ : Nat → Nat × (Nat → Int32)} {yy : (Nat → Nat → Int64) × Bool × Nat × Nat} {m : Nat → Nat → Int32} {b : Nat} {t : Nat} (hb : BB b) (ht : t < 4) (hD : DT m b t) : zF σ 2 625 [.ref b, .ref (b + 10 + 7 * t), .int (Int32.ofNat 0)] (zS1, m, yy) (.inl (some (.int (x_blocksOf0 m b t)))) (zS1, m, yy) := by
  intro d hd
  obtain ⟨d, rfl⟩ : ∃ k, d = k + 1 := ⟨d - 1, by omega⟩
  exact xp_blocksOf0 hd hb ht hD
noncomputable def xl_blocksL1 (m : Nat → Nat → Int32) (b : Nat) (t : Nat) : Nat → Int32 → Nat → Int32
  | 0, a, k => a
  | n + 1, a, k => (bif zc2 .ne (Int32.ofNat (mv m (b + 11 + 7 * t) k)) (Int32.ofNat 1) then (xl_blocksL1 m b t n a ((k + 1))) else (xl_blocksL1 m b t n ((a ||| (x_blockBit m b ((m ((b + 5 + ((mv m (b + 12 + 7 * t) k)))) 0))))) ((k + 1))))
theorem xw_blocksL1 {σ : Nat → Nat × (Nat → Int32)} {yy : (Nat → Nat → Int64) × Bool × Nat × Nat} {m : Nat → Nat → Int32} {b : Nat} {t : Nat} {d : Nat} (hd : 2 ≤ d + 1) (hb : BB b) (ht : t < 4) (hD : DT m b t) (h24 : mv m (b + 10 + 7 * t) 2 ≤ 24) : ∀ (n : Nat) (a : Int32) (k : Nat) (x5 : Option Value) (x6 : Option Value), k + n = mv m (b + 10 + 7 * t) 2 → zEv σ (d + 1) 625 5 [some (.ref b), some (.ref (b + 10 + 7 * t)), some (.int (Int32.ofNat 1)), some (.int a), some (.int (Int32.ofNat k)), x5, x6] [] (zS1, m, yy) (.inl (some (.int (xl_blocksL1 m b t n a k)))) (zS1, m, yy) := by
  intro n
  induction n with
  | zero =>
    intro a k x5 x6 hk
    refine zeP rfl rfl ?_
    refine zeP rfl rfl ?_
    refine zeGI rfl rfl (shS hb (by omega)) rfl rfl ?_
    rw [hD.1.1]
    refine zeT2 rfl rfl (zcge (by omega) (by omega) (by omega)) ?_
    refine zeP rfl rfl ?_
    exact zeRe rfl rfl rfl rfl (by rfl) (by rfl)
  | succ n ih =>
    intro a k x5 x6 hk
    refine zeP rfl rfl ?_
    refine zeP rfl rfl ?_
    refine zeGI rfl rfl (shS hb (by omega)) rfl rfl ?_
    rw [hD.1.1]
    refine zeF2 rfl rfl (zcge_f (by omega) (by omega) (by omega)) ?_
    refine zeP rfl rfl ?_
    refine zeP rfl rfl ?_
    refine zeCV rfl rfl rfl rfl (shS hb (by omega)) rfl (xc_kindAt (m := m) (b := b) (t := t) (p := k) hb ht (by omega)) (by omega) ?_
    dsimp only [Option.toList, List.cons_append, List.nil_append]
    rw [(show x_kindAt m b t k = Int32.ofNat (mv m (b + 11 + 7 * t) k) from (hD.2.2.2.2 k (by omega)).1.1)]
    refine zeP rfl rfl ?_
    refine zeB2 rfl rfl (fun h1 => ?_) (fun h1 => ?_)
    · refine zeInc rfl rfl ?_
      refine zeP rfl rfl ?_
      simp only [xl_blocksL1, h1, cond_true, cond_false]
      exact ih (a) ((k + 1)) (x5) (x6)   (by omega) 
    · refine zeP rfl rfl ?_
      refine zeP rfl rfl ?_
      refine zeCV rfl rfl rfl rfl (shS hb (by omega)) rfl (xc_numberAt (m := m) (b := b) (t := t) (p := k) hb ht (by omega)) (by omega) ?_
      dsimp only [Option.toList, List.cons_append, List.nil_append]
      rw [(show x_numberAt m b t k = Int32.ofNat (mv m (b + 12 + 7 * t) k) from (hD.2.2.2.2 k (by omega)).2.1.1)]
      refine zeP rfl rfl ?_
      refine zeP rfl rfl ?_
      refine zeF1 rfl rfl (show zc1 .eq (Int32.ofNat 1) = false by decide) ?_
      refine zeP rfl rfl ?_
      refine zeKn (c := 1) rfl rfl rfl ?_
      refine zeF2 rfl rfl (show zc2 .ne (Int32.ofNat 1) (Int32.ofNat 1) = false by decide) ?_
      refine zeKn (c := 1) rfl rfl rfl ?_
      refine zeP rfl rfl ?_
      refine zeP rfl rfl ?_
      have hq4 : mv m (b + 12 + 7 * t) k < 4 := by
        have e1 := zne_eq (a := mv m (b + 11 + 7 * t) k) (c := 1) (by have := (hD.2.2.2.2 k (by omega)).1.2; omega) (by omega) (by assumption)
        have e2 := (hD.2.2.2.2 k (by omega)).2.2.1
        omega
      refine zeP rfl rfl ?_
      refine zeP rfl rfl ?_
      refine zeP rfl rfl ?_
      refine zeF1 rfl rfl (show zc1 .eq (Int32.ofNat 1) = false by decide) ?_
      refine zeP rfl rfl ?_
      refine zeP rfl rfl ?_
      refine zeCV rfl rfl rfl rfl (shM hb) rfl (xc_lockAt (m := m) (b := b) (l := (mv m (b + 12 + 7 * t) k)) hb hq4) (by omega) ?_
      dsimp only [Option.toList, List.cons_append, List.nil_append]
      refine zeGI rfl rfl (shL hb (by omega)) rfl rfl ?_
      refine zeP rfl rfl ?_
      refine zeCV rfl rfl rfl rfl (shM hb) rfl (xc_blockBit (m := m) (b := b) (w := (m ((b + 5 + ((mv m (b + 12 + 7 * t) k)))) 0)) hb) (by omega) ?_
      dsimp only [Option.toList, List.cons_append, List.nil_append]
      refine zeP rfl rfl ?_
      refine zeP rfl rfl ?_
      refine zeInc rfl rfl ?_
      refine zeP rfl rfl ?_
      simp only [xl_blocksL1, h1, cond_true, cond_false]
      exact ih ((a ||| (x_blockBit m b ((m ((b + 5 + ((mv m (b + 12 + 7 * t) k)))) 0))))) ((k + 1)) (some (.int (Int32.ofNat (mv m (b + 12 + 7 * t) k)))) (some (.int (Int32.ofNat 1)))   (by omega) 
noncomputable def x_blocksOf1 (m : Nat → Nat → Int32) (b : Nat) (t : Nat) : Int32 := (xl_blocksL1 m b t ((mv m (b + 10 + 7 * t) 2)) ((Int32.ofNat 0)) 0)
theorem xp_blocksOf1 {σ : Nat → Nat × (Nat → Int32)} {yy : (Nat → Nat → Int64) × Bool × Nat × Nat} {m : Nat → Nat → Int32} {b : Nat} {t : Nat} {d : Nat} (hd : 2 ≤ d + 1) (hb : BB b) (ht : t < 4) (hD : DT m b t) : zEv σ (d + 1) 625 0 [some (.ref b), some (.ref (b + 10 + 7 * t)), some (.int (Int32.ofNat 1)), none, none, none, none] [] (zS1, m, yy) (.inl (some (.int (x_blocksOf1 m b t)))) (zS1, m, yy) := by
  refine zeKn (c := 0) rfl rfl rfl ?_
  refine zeP rfl rfl ?_
  refine zeKn (c := 0) rfl rfl rfl ?_
  refine zeP rfl rfl ?_
  simp only [x_blocksOf1, cond_true, cond_false]
  exact xw_blocksL1 (b := b) (t := t) (m := m) (by omega) hb ht hD hD.1.2 ((mv m (b + 10 + 7 * t) 2)) ((Int32.ofNat 0)) (0) (none) (none)   (by omega) 
theorem xc_blocksOf1 {σ : Nat → Nat × (Nat → Int32)} {yy : (Nat → Nat → Int64) × Bool × Nat × Nat} {m : Nat → Nat → Int32} {b : Nat} {t : Nat} (hb : BB b) (ht : t < 4) (hD : DT m b t) : zF σ 2 625 [.ref b, .ref (b + 10 + 7 * t), .int (Int32.ofNat 1)] (zS1, m, yy) (.inl (some (.int (x_blocksOf1 m b t)))) (zS1, m, yy) := by
  intro d hd
  obtain ⟨d, rfl⟩ : ∃ k, d = k + 1 := ⟨d - 1, by omega⟩
  exact xp_blocksOf1 hd hb ht hD
noncomputable def xl_blocksL2 (m : Nat → Nat → Int32) (b : Nat) (t : Nat) : Nat → Int32 → Nat → Int32
  | 0, a, k => a
  | n + 1, a, k => (bif zc2 .ne (Int32.ofNat (mv m (b + 11 + 7 * t) k)) (Int32.ofNat 2) then (xl_blocksL2 m b t n a ((k + 1))) else (xl_blocksL2 m b t n ((a ||| (x_blockBit m b ((Int32.ofNat (mv m (b + 12 + 7 * t) k)))))) ((k + 1))))
theorem xw_blocksL2 {σ : Nat → Nat × (Nat → Int32)} {yy : (Nat → Nat → Int64) × Bool × Nat × Nat} {m : Nat → Nat → Int32} {b : Nat} {t : Nat} {d : Nat} (hd : 2 ≤ d + 1) (hb : BB b) (ht : t < 4) (hD : DT m b t) (h24 : mv m (b + 10 + 7 * t) 2 ≤ 24) : ∀ (n : Nat) (a : Int32) (k : Nat) (x5 : Option Value) (x6 : Option Value), k + n = mv m (b + 10 + 7 * t) 2 → zEv σ (d + 1) 625 5 [some (.ref b), some (.ref (b + 10 + 7 * t)), some (.int (Int32.ofNat 2)), some (.int a), some (.int (Int32.ofNat k)), x5, x6] [] (zS1, m, yy) (.inl (some (.int (xl_blocksL2 m b t n a k)))) (zS1, m, yy) := by
  intro n
  induction n with
  | zero =>
    intro a k x5 x6 hk
    refine zeP rfl rfl ?_
    refine zeP rfl rfl ?_
    refine zeGI rfl rfl (shS hb (by omega)) rfl rfl ?_
    rw [hD.1.1]
    refine zeT2 rfl rfl (zcge (by omega) (by omega) (by omega)) ?_
    refine zeP rfl rfl ?_
    exact zeRe rfl rfl rfl rfl (by rfl) (by rfl)
  | succ n ih =>
    intro a k x5 x6 hk
    refine zeP rfl rfl ?_
    refine zeP rfl rfl ?_
    refine zeGI rfl rfl (shS hb (by omega)) rfl rfl ?_
    rw [hD.1.1]
    refine zeF2 rfl rfl (zcge_f (by omega) (by omega) (by omega)) ?_
    refine zeP rfl rfl ?_
    refine zeP rfl rfl ?_
    refine zeCV rfl rfl rfl rfl (shS hb (by omega)) rfl (xc_kindAt (m := m) (b := b) (t := t) (p := k) hb ht (by omega)) (by omega) ?_
    dsimp only [Option.toList, List.cons_append, List.nil_append]
    rw [(show x_kindAt m b t k = Int32.ofNat (mv m (b + 11 + 7 * t) k) from (hD.2.2.2.2 k (by omega)).1.1)]
    refine zeP rfl rfl ?_
    refine zeB2 rfl rfl (fun h1 => ?_) (fun h1 => ?_)
    · refine zeInc rfl rfl ?_
      refine zeP rfl rfl ?_
      simp only [xl_blocksL2, h1, cond_true, cond_false]
      exact ih (a) ((k + 1)) (x5) (x6)   (by omega) 
    · refine zeP rfl rfl ?_
      refine zeP rfl rfl ?_
      refine zeCV rfl rfl rfl rfl (shS hb (by omega)) rfl (xc_numberAt (m := m) (b := b) (t := t) (p := k) hb ht (by omega)) (by omega) ?_
      dsimp only [Option.toList, List.cons_append, List.nil_append]
      rw [(show x_numberAt m b t k = Int32.ofNat (mv m (b + 12 + 7 * t) k) from (hD.2.2.2.2 k (by omega)).2.1.1)]
      refine zeP rfl rfl ?_
      refine zeP rfl rfl ?_
      refine zeF1 rfl rfl (show zc1 .eq (Int32.ofNat 2) = false by decide) ?_
      refine zeP rfl rfl ?_
      refine zeKn (c := 1) rfl rfl rfl ?_
      refine zeT2 rfl rfl (show zc2 .ne (Int32.ofNat 2) (Int32.ofNat 1) = true by decide) ?_
      refine zeKn (c := 0) rfl rfl rfl ?_
      refine zeP rfl rfl ?_
      refine zeP rfl rfl ?_
      refine zeP rfl rfl ?_
      refine zeP rfl rfl ?_
      refine zeT1 rfl rfl (show zc1 .eq (Int32.ofNat 0) = true by decide) ?_
      refine zeP rfl rfl ?_
      refine zeCV rfl rfl rfl rfl (shM hb) rfl (xc_blockBit (m := m) (b := b) (w := (Int32.ofNat (mv m (b + 12 + 7 * t) k))) hb) (by omega) ?_
      dsimp only [Option.toList, List.cons_append, List.nil_append]
      refine zeP rfl rfl ?_
      refine zeP rfl rfl ?_
      refine zeInc rfl rfl ?_
      refine zeP rfl rfl ?_
      simp only [xl_blocksL2, h1, cond_true, cond_false]
      exact ih ((a ||| (x_blockBit m b ((Int32.ofNat (mv m (b + 12 + 7 * t) k)))))) ((k + 1)) (some (.int (Int32.ofNat (mv m (b + 12 + 7 * t) k)))) (some (.int (Int32.ofNat 0)))   (by omega) 
noncomputable def x_blocksOf2 (m : Nat → Nat → Int32) (b : Nat) (t : Nat) : Int32 := (xl_blocksL2 m b t ((mv m (b + 10 + 7 * t) 2)) ((Int32.ofNat 0)) 0)
theorem xp_blocksOf2 {σ : Nat → Nat × (Nat → Int32)} {yy : (Nat → Nat → Int64) × Bool × Nat × Nat} {m : Nat → Nat → Int32} {b : Nat} {t : Nat} {d : Nat} (hd : 2 ≤ d + 1) (hb : BB b) (ht : t < 4) (hD : DT m b t) : zEv σ (d + 1) 625 0 [some (.ref b), some (.ref (b + 10 + 7 * t)), some (.int (Int32.ofNat 2)), none, none, none, none] [] (zS1, m, yy) (.inl (some (.int (x_blocksOf2 m b t)))) (zS1, m, yy) := by
  refine zeKn (c := 0) rfl rfl rfl ?_
  refine zeP rfl rfl ?_
  refine zeKn (c := 0) rfl rfl rfl ?_
  refine zeP rfl rfl ?_
  simp only [x_blocksOf2, cond_true, cond_false]
  exact xw_blocksL2 (b := b) (t := t) (m := m) (by omega) hb ht hD hD.1.2 ((mv m (b + 10 + 7 * t) 2)) ((Int32.ofNat 0)) (0) (none) (none)   (by omega) 
theorem xc_blocksOf2 {σ : Nat → Nat × (Nat → Int32)} {yy : (Nat → Nat → Int64) × Bool × Nat × Nat} {m : Nat → Nat → Int32} {b : Nat} {t : Nat} (hb : BB b) (ht : t < 4) (hD : DT m b t) : zF σ 2 625 [.ref b, .ref (b + 10 + 7 * t), .int (Int32.ofNat 2)] (zS1, m, yy) (.inl (some (.int (x_blocksOf2 m b t)))) (zS1, m, yy) := by
  intro d hd
  obtain ⟨d, rfl⟩ : ∃ k, d = k + 1 := ⟨d - 1, by omega⟩
  exact xp_blocksOf2 hd hb ht hD
noncomputable def xl_blocksL3 (m : Nat → Nat → Int32) (b : Nat) (t : Nat) : Nat → Int32 → Nat → Int32
  | 0, a, k => a
  | n + 1, a, k => (bif zc2 .ne (Int32.ofNat (mv m (b + 11 + 7 * t) k)) (Int32.ofNat 3) then (xl_blocksL3 m b t n a ((k + 1))) else (xl_blocksL3 m b t n ((a ||| (x_blockBit m b ((Int32.ofNat (mv m (b + 12 + 7 * t) k)))))) ((k + 1))))
theorem xw_blocksL3 {σ : Nat → Nat × (Nat → Int32)} {yy : (Nat → Nat → Int64) × Bool × Nat × Nat} {m : Nat → Nat → Int32} {b : Nat} {t : Nat} {d : Nat} (hd : 2 ≤ d + 1) (hb : BB b) (ht : t < 4) (hD : DT m b t) (h24 : mv m (b + 10 + 7 * t) 2 ≤ 24) : ∀ (n : Nat) (a : Int32) (k : Nat) (x5 : Option Value) (x6 : Option Value), k + n = mv m (b + 10 + 7 * t) 2 → zEv σ (d + 1) 625 5 [some (.ref b), some (.ref (b + 10 + 7 * t)), some (.int (Int32.ofNat 3)), some (.int a), some (.int (Int32.ofNat k)), x5, x6] [] (zS1, m, yy) (.inl (some (.int (xl_blocksL3 m b t n a k)))) (zS1, m, yy) := by
  intro n
  induction n with
  | zero =>
    intro a k x5 x6 hk
    refine zeP rfl rfl ?_
    refine zeP rfl rfl ?_
    refine zeGI rfl rfl (shS hb (by omega)) rfl rfl ?_
    rw [hD.1.1]
    refine zeT2 rfl rfl (zcge (by omega) (by omega) (by omega)) ?_
    refine zeP rfl rfl ?_
    exact zeRe rfl rfl rfl rfl (by rfl) (by rfl)
  | succ n ih =>
    intro a k x5 x6 hk
    refine zeP rfl rfl ?_
    refine zeP rfl rfl ?_
    refine zeGI rfl rfl (shS hb (by omega)) rfl rfl ?_
    rw [hD.1.1]
    refine zeF2 rfl rfl (zcge_f (by omega) (by omega) (by omega)) ?_
    refine zeP rfl rfl ?_
    refine zeP rfl rfl ?_
    refine zeCV rfl rfl rfl rfl (shS hb (by omega)) rfl (xc_kindAt (m := m) (b := b) (t := t) (p := k) hb ht (by omega)) (by omega) ?_
    dsimp only [Option.toList, List.cons_append, List.nil_append]
    rw [(show x_kindAt m b t k = Int32.ofNat (mv m (b + 11 + 7 * t) k) from (hD.2.2.2.2 k (by omega)).1.1)]
    refine zeP rfl rfl ?_
    refine zeB2 rfl rfl (fun h1 => ?_) (fun h1 => ?_)
    · refine zeInc rfl rfl ?_
      refine zeP rfl rfl ?_
      simp only [xl_blocksL3, h1, cond_true, cond_false]
      exact ih (a) ((k + 1)) (x5) (x6)   (by omega) 
    · refine zeP rfl rfl ?_
      refine zeP rfl rfl ?_
      refine zeCV rfl rfl rfl rfl (shS hb (by omega)) rfl (xc_numberAt (m := m) (b := b) (t := t) (p := k) hb ht (by omega)) (by omega) ?_
      dsimp only [Option.toList, List.cons_append, List.nil_append]
      rw [(show x_numberAt m b t k = Int32.ofNat (mv m (b + 12 + 7 * t) k) from (hD.2.2.2.2 k (by omega)).2.1.1)]
      refine zeP rfl rfl ?_
      refine zeP rfl rfl ?_
      refine zeF1 rfl rfl (show zc1 .eq (Int32.ofNat 3) = false by decide) ?_
      refine zeP rfl rfl ?_
      refine zeKn (c := 1) rfl rfl rfl ?_
      refine zeT2 rfl rfl (show zc2 .ne (Int32.ofNat 3) (Int32.ofNat 1) = true by decide) ?_
      refine zeKn (c := 0) rfl rfl rfl ?_
      refine zeP rfl rfl ?_
      refine zeP rfl rfl ?_
      refine zeP rfl rfl ?_
      refine zeP rfl rfl ?_
      refine zeT1 rfl rfl (show zc1 .eq (Int32.ofNat 0) = true by decide) ?_
      refine zeP rfl rfl ?_
      refine zeCV rfl rfl rfl rfl (shM hb) rfl (xc_blockBit (m := m) (b := b) (w := (Int32.ofNat (mv m (b + 12 + 7 * t) k))) hb) (by omega) ?_
      dsimp only [Option.toList, List.cons_append, List.nil_append]
      refine zeP rfl rfl ?_
      refine zeP rfl rfl ?_
      refine zeInc rfl rfl ?_
      refine zeP rfl rfl ?_
      simp only [xl_blocksL3, h1, cond_true, cond_false]
      exact ih ((a ||| (x_blockBit m b ((Int32.ofNat (mv m (b + 12 + 7 * t) k)))))) ((k + 1)) (some (.int (Int32.ofNat (mv m (b + 12 + 7 * t) k)))) (some (.int (Int32.ofNat 0)))   (by omega) 
noncomputable def x_blocksOf3 (m : Nat → Nat → Int32) (b : Nat) (t : Nat) : Int32 := (xl_blocksL3 m b t ((mv m (b + 10 + 7 * t) 2)) ((Int32.ofNat 0)) 0)
theorem xp_blocksOf3 {σ : Nat → Nat × (Nat → Int32)} {yy : (Nat → Nat → Int64) × Bool × Nat × Nat} {m : Nat → Nat → Int32} {b : Nat} {t : Nat} {d : Nat} (hd : 2 ≤ d + 1) (hb : BB b) (ht : t < 4) (hD : DT m b t) : zEv σ (d + 1) 625 0 [some (.ref b), some (.ref (b + 10 + 7 * t)), some (.int (Int32.ofNat 3)), none, none, none, none] [] (zS1, m, yy) (.inl (some (.int (x_blocksOf3 m b t)))) (zS1, m, yy) := by
  refine zeKn (c := 0) rfl rfl rfl ?_
  refine zeP rfl rfl ?_
  refine zeKn (c := 0) rfl rfl rfl ?_
  refine zeP rfl rfl ?_
  simp only [x_blocksOf3, cond_true, cond_false]
  exact xw_blocksL3 (b := b) (t := t) (m := m) (by omega) hb ht hD hD.1.2 ((mv m (b + 10 + 7 * t) 2)) ((Int32.ofNat 0)) (0) (none) (none)   (by omega) 
theorem xc_blocksOf3 {σ : Nat → Nat × (Nat → Int32)} {yy : (Nat → Nat → Int64) × Bool × Nat × Nat} {m : Nat → Nat → Int32} {b : Nat} {t : Nat} (hb : BB b) (ht : t < 4) (hD : DT m b t) : zF σ 2 625 [.ref b, .ref (b + 10 + 7 * t), .int (Int32.ofNat 3)] (zS1, m, yy) (.inl (some (.int (x_blocksOf3 m b t)))) (zS1, m, yy) := by
  intro d hd
  obtain ⟨d, rfl⟩ : ∃ k, d = k + 1 := ⟨d - 1, by omega⟩
  exact xp_blocksOf3 hd hb ht hD
noncomputable def x_reachXC (m : Nat → Nat → Int32) (b : Nat) (w : Nat) (v : Int32) (x : Int32) (r : Int32) (o : Int32) : Int32 × (Nat → Nat → Int32) := (bif zc1 .eq r then ((Int32.ofNat 1), m) else ((Int32.ofNat 1), (zm2 m ((b + 1)) w v)))
theorem xp_reachXC {σ : Nat → Nat × (Nat → Int32)} {yy : (Nat → Nat → Int64) × Bool × Nat × Nat} {m : Nat → Nat → Int32} {b : Nat} {w : Nat} {v : Int32} {x : Int32} {r : Int32} {o : Int32} {x8 : Option Value} {d : Nat} (hd : 1 ≤ d + 1) (hb : BB b) (hw : w < 32) : zEv σ (d + 1) 620 149 [some (.ref b), some (.int (-1)), some (.int (Int32.ofNat w)), some (.int v), some (.int x), some (.int r), some (.int (Int32.ofNat 0)), some (.int o), x8] [] (zS1, m, yy) (.inl (some (.int (x_reachXC m b w v x r o).1))) (zS1, ((x_reachXC m b w v x r o).2), yy) := by
  refine zeP rfl rfl ?_
  refine zeT1 rfl rfl (show zc1 .eq (Int32.ofNat 0) = true by decide) ?_
  refine zeP rfl rfl ?_
  refine zeT1 rfl rfl (show zc1 .eq (Int32.ofNat 0) = true by decide) ?_
  refine zeP rfl rfl ?_
  refine zeB1 rfl rfl (fun h1 => ?_) (fun h1 => ?_)
  · refine zeKn (c := 1) rfl rfl rfl ?_
    exact zeRe rfl rfl rfl rfl (by simp only [x_reachXC, h1, cond_true, cond_false] <;> rfl) (by simp only [x_reachXC, h1, cond_true, cond_false] <;> rfl)
  · refine zeP rfl rfl ?_
    refine zeGR rfl rfl (shM hb) rfl rfl ?_
    refine zeP rfl rfl ?_
    refine zeKn (c := 31) rfl rfl rfl ?_
    refine zeON (c := w) rfl rfl (zand31 _ hw) ?_
    refine zeP rfl rfl ?_
    refine zeAS (k := w) rfl (shW hb) rfl (by omega) ?_
    refine zeKn (c := 1) rfl rfl rfl ?_
    exact zeRe rfl rfl rfl rfl (by simp only [x_reachXC, h1, cond_true, cond_false] <;> rfl) (by simp only [x_reachXC, h1, cond_true, cond_false] <;> rfl)
noncomputable def xl_reachXL (b : Nat) (w : Nat) (v : Int32) (x : Int32) (r : Int32) (o : Int32) (n5 : Nat) : Nat → Nat → (Nat → Nat → Int32) → Int32 × (Nat → Nat → Int32)
  | 0, k, m => (x_reachXC m b w v x r o)
  | n + 1, k, m => (bif zc1 .eq ((o.toUInt32 >>> (((Int32.ofNat k)).toUInt32 &&& Int32.toUInt32 31)).toInt32 &&& (Int32.ofNat 1)) then (xl_reachXL b w v x r o n5 n ((k + 1)) m) else (xl_reachXL b w v x r o n5 n ((k + 1)) ((x_fall m b k 0).2)))
theorem xw_reachXL {σ : Nat → Nat × (Nat → Int32)} {yy : (Nat → Nat → Int64) × Bool × Nat × Nat} {b : Nat} {w : Nat} {v : Int32} {x : Int32} {r : Int32} {o : Int32} {n5 : Nat} {d : Nat} (hd : 3 ≤ d + 1) (hb : BB b) (hw : w < 32) (hn4 : n5 ≤ 4) : ∀ (n : Nat) (k : Nat) (m : Nat → Nat → Int32), k + n = n5 → CG m b → m b 5 = Int32.ofNat n5 → zEv σ (d + 1) 620 116 [some (.ref b), some (.int (-1)), some (.int (Int32.ofNat w)), some (.int v), some (.int x), some (.int r), some (.int (Int32.ofNat 0)), some (.int o), some (.int (Int32.ofNat k))] [] (zS1, m, yy) (.inl (some (.int (xl_reachXL b w v x r o n5 n k m).1))) (zS1, ((xl_reachXL b w v x r o n5 n k m).2), yy) := by
  intro n
  induction n with
  | zero =>
    intro k m hk hc h5
    refine zeP rfl rfl ?_
    refine zeP rfl rfl ?_
    refine zeGI rfl rfl (shM hb) rfl rfl ?_
    rw [h5]
    refine zeT2 rfl rfl (zcge (by omega) (by omega) (by omega)) ?_
    simp only [xl_reachXL, cond_true, cond_false]
    exact xp_reachXC (b := b) (w := w) (v := v) (x := x) (r := r) (o := o) (x8 := some (.int (Int32.ofNat k))) (m := m) (by omega) hb hw
  | succ n ih =>
    intro k m hk hc h5
    refine zeP rfl rfl ?_
    refine zeP rfl rfl ?_
    refine zeGI rfl rfl (shM hb) rfl rfl ?_
    rw [h5]
    refine zeF2 rfl rfl (zcge_f (by omega) (by omega) (by omega)) ?_
    refine zeP rfl rfl ?_
    refine zeP rfl rfl ?_
    refine zeP rfl rfl ?_
    refine zeKn (c := 1) rfl rfl rfl ?_
    refine zeP rfl rfl ?_
    refine zeB1 rfl rfl (fun h1 => ?_) (fun h1 => ?_)
    · refine zeInc rfl rfl ?_
      refine zeP rfl rfl ?_
      simp only [xl_reachXL, h1, cond_true, cond_false]
      exact ih ((k + 1))  m (by omega) (by first | exact hc | exact hc.fall (by omega) (by omega)) (by first | exact h5 | (rw [fall_c5 hc (by omega) (by omega)]; exact h5))
    · refine zeP rfl rfl ?_
      refine zeP rfl rfl ?_
      refine zeKn (c := 0) rfl rfl rfl ?_
      refine zeCV rfl rfl rfl rfl (shM hb) rfl (xc_fall (m := m) (b := b) (t := k) (y := 0) hb (by omega) (by omega) (hc.l (by omega)) (hc.l4 (by omega)) hc.n hc.n60) (by omega) ?_
      dsimp only [Option.toList, List.cons_append, List.nil_append]
      refine zeP rfl rfl ?_
      refine zeInc rfl rfl ?_
      refine zeP rfl rfl ?_
      simp only [xl_reachXL, h1, cond_true, cond_false]
      exact ih ((k + 1))  ((x_fall m b k 0).2) (by omega) (by first | exact hc | exact hc.fall (by omega) (by omega)) (by first | exact h5 | (rw [fall_c5 hc (by omega) (by omega)]; exact h5))
noncomputable def x_reachX (m : Nat → Nat → Int32) (b : Nat) (w : Nat) (v : Int32) : Int32 × (Nat → Nat → Int32) := (bif zc2 .eq v (-1) then (xl_reachXL b w v ((x_blockBit m b ((Int32.ofNat w)))) ((Int32.ofNat 0)) ((x_holders m b ((x_blockBit m b ((Int32.ofNat w)))) ((-1)) ((Int32.ofNat 0)))) ((mv m b 5)) ((mv m b 5)) 0 m) else (xl_reachXL b w v ((x_blockBit m b ((Int32.ofNat w)))) ((Int32.ofNat 1)) ((x_holders m b ((x_blockBit m b ((Int32.ofNat w)))) ((-1)) ((Int32.ofNat 1)))) ((mv m b 5)) ((mv m b 5)) 0 m))
theorem xp_reachX {σ : Nat → Nat × (Nat → Int32)} {yy : (Nat → Nat → Int64) × Bool × Nat × Nat} {m : Nat → Nat → Int32} {b : Nat} {w : Nat} {v : Int32} {d : Nat} (hd : 3 ≤ d + 1) (hb : BB b) (hc : CG m b) (hw : w < 32) : zEv σ (d + 1) 620 0 [some (.ref b), some (.int (-1)), some (.int (Int32.ofNat w)), some (.int v), none, none, none, none, none] [] (zS1, m, yy) (.inl (some (.int (x_reachX m b w v).1))) (zS1, ((x_reachX m b w v).2), yy) := by
  refine zeP rfl rfl ?_
  refine zeP rfl rfl ?_
  refine zeCV rfl rfl rfl rfl (shM hb) rfl (xc_blockBit (m := m) (b := b) (w := (Int32.ofNat w)) hb) (by omega) ?_
  dsimp only [Option.toList, List.cons_append, List.nil_append]
  refine zeP rfl rfl ?_
  refine zeP rfl rfl ?_
  refine zeK (v := -1) rfl rfl rfl ?_
  refine zeB2 rfl rfl (fun h1 => ?_) (fun h1 => ?_)
  · refine zeKn (c := 0) rfl rfl rfl ?_
    refine zeP rfl rfl ?_
    refine zeP rfl rfl ?_
    refine zeP rfl rfl ?_
    refine zeCV rfl rfl rfl rfl (shM hb) rfl (xc_isGuessingX (m := m) (b := b) hb) (by omega) ?_
    dsimp only [Option.toList, List.cons_append, List.nil_append]
    refine zeP rfl rfl ?_
    refine zeP rfl rfl ?_
    refine zeT1 rfl rfl (show zc1 .eq (Int32.ofNat 0) = true by decide) ?_
    refine zeP rfl rfl ?_
    refine zeP rfl rfl ?_
    refine zeP rfl rfl ?_
    refine zeP rfl rfl ?_
    refine zeCV rfl rfl rfl rfl (shM hb) rfl (xc_holders (m := m) (b := b) (x := (x_blockBit m b ((Int32.ofNat w)))) (u := (-1)) (w := (Int32.ofNat 0)) hb hc) (by omega) ?_
    dsimp only [Option.toList, List.cons_append, List.nil_append]
    refine zeP rfl rfl ?_
    refine zeP rfl rfl ?_
    refine zeT1 rfl rfl (show zc1 .eq (Int32.ofNat 0) = true by decide) ?_
    refine zeKn (c := 0) rfl rfl rfl ?_
    refine zeP rfl rfl ?_
    simp only [x_reachX, h1, cond_true, cond_false]
    exact xw_reachXL (b := b) (w := w) (v := v) (x := (x_blockBit m b ((Int32.ofNat w)))) (r := (Int32.ofNat 0)) (o := (x_holders m b ((x_blockBit m b ((Int32.ofNat w)))) ((-1)) ((Int32.ofNat 0)))) (n5 := (mv m b 5)) (by omega) hb hw hc.c4 ((mv m b 5)) (0)  m (by omega) hc hc.c
  · refine zeKn (c := 1) rfl rfl rfl ?_
    refine zeP rfl rfl ?_
    refine zeP rfl rfl ?_
    refine zeP rfl rfl ?_
    refine zeP rfl rfl ?_
    refine zeCV rfl rfl rfl rfl (shM hb) rfl (xc_isGuessingX (m := m) (b := b) hb) (by omega) ?_
    dsimp only [Option.toList, List.cons_append, List.nil_append]
    refine zeP rfl rfl ?_
    refine zeP rfl rfl ?_
    refine zeT1 rfl rfl (show zc1 .eq (Int32.ofNat 0) = true by decide) ?_
    refine zeP rfl rfl ?_
    refine zeP rfl rfl ?_
    refine zeP rfl rfl ?_
    refine zeP rfl rfl ?_
    refine zeCV rfl rfl rfl rfl (shM hb) rfl (xc_holders (m := m) (b := b) (x := (x_blockBit m b ((Int32.ofNat w)))) (u := (-1)) (w := (Int32.ofNat 1)) hb hc) (by omega) ?_
    dsimp only [Option.toList, List.cons_append, List.nil_append]
    refine zeP rfl rfl ?_
    refine zeP rfl rfl ?_
    refine zeT1 rfl rfl (show zc1 .eq (Int32.ofNat 0) = true by decide) ?_
    refine zeKn (c := 0) rfl rfl rfl ?_
    refine zeP rfl rfl ?_
    simp only [x_reachX, h1, cond_true, cond_false]
    exact xw_reachXL (b := b) (w := w) (v := v) (x := (x_blockBit m b ((Int32.ofNat w)))) (r := (Int32.ofNat 1)) (o := (x_holders m b ((x_blockBit m b ((Int32.ofNat w)))) ((-1)) ((Int32.ofNat 1)))) (n5 := (mv m b 5)) (by omega) hb hw hc.c4 ((mv m b 5)) (0)  m (by omega) hc hc.c
theorem xc_reachX {σ : Nat → Nat × (Nat → Int32)} {yy : (Nat → Nat → Int64) × Bool × Nat × Nat} {m : Nat → Nat → Int32} {b : Nat} {w : Nat} {v : Int32} (hb : BB b) (hc : CG m b) (hw : w < 32) : zF σ 3 620 [.ref b, .int (-1), .int (Int32.ofNat w), .int v] (zS1, m, yy) (.inl (some (.int (x_reachX m b w v).1))) (zS1, ((x_reachX m b w v).2), yy) := by
  intro d hd
  obtain ⟨d, rfl⟩ : ∃ k, d = k + 1 := ⟨d - 1, by omega⟩
  exact xp_reachX hd hb hc hw
end
section
/-! a step in the machine at b leaves all that lies outside alone -/
noncomputable def FB (m : Nat → Nat → Int32) (b : Nat) (P : Nat → Nat → Int32) : Prop := ∀ i l, i < b ∨ b + 42 ≤ i → m i l = P i l
section ZFB
variable {m m' : Nat → Nat → Int32} {b t l w : Nat} {P : Nat → Nat → Int32}
theorem FB.refl : FB m b m := fun _ _ _ => rfl
theorem FB.tr {P2 : Nat → Nat → Int32} (h : FB m b P) (h2 : FB P b P2) : FB m b P2 := fun i l hi => (h i l hi).trans (h2 i l hi)
theorem FB.put {a k : Nat} (h : FB m b P) (x : Int32) (hf : b ≤ a ∧ a < b + 42) : FB (zm2 m a k x) b P := fun i l hi => (zx_ne _ _ _ (by omega)).trans (h i l hi)
theorem FB.logAdd (h : FB m b P) (t u w v : Int32) : FB (x_logAdd m b t u w v) b P := fun i l hi => (logAdd_ne (by omega) (by omega)).trans (h i l hi)
theorem FB.close (h : FB m b P) (ht : t < 4) : FB (x_close m b t) b P := fun i l hi => (close_ne (by omega)).trans (h i l hi)
theorem FB.lose {x : Int32} (h : FB m b P) (hl : l < 4) : FB (x_lose m b l x) b P := by
  unfold x_lose
  exact cndi (fun q : Nat → Nat → Int32 => FB q b P) (h.put _ ⟨by omega, by omega⟩) (h.put _ ⟨by omega, by omega⟩)
theorem FB.gain {x : Int32} (h : FB m b P) (hl : l < 4) : FB (x_gain m b l x) b P := by
  unfold x_gain
  exact cndi (fun q : Nat → Nat → Int32 => FB q b P) (h.put _ ⟨by omega, by omega⟩) (h.put _ ⟨by omega, by omega⟩)
theorem FB.fall {y : Nat} (h : FB m b P) (hc : CG m b) (ht : t < 4) : FB (x_fall m b t y).2 b P := by
  have hl := hc.l4 ht
  unfold x_fall
  dsimp only
  refine FB.logAdd ?_ _ _ _ _
  refine FB.close ?_ ht
  refine FB.lose ?_ hl
  exact ((((h.put _ ⟨by omega, by omega⟩).put _ ⟨by omega, by omega⟩).put _ ⟨by omega, by omega⟩).put _ ⟨by omega, by omega⟩).put _ ⟨by omega, by omega⟩
theorem FB.gwrite {v x : Int32} (h : FB m b P) (ht : t < 4) : FB (x_gwrite m b t w v x) b P := by
  unfold x_gwrite
  exact ((h.put _ ⟨by omega, by omega⟩).put _ ⟨by omega, by omega⟩).put _ ⟨by omega, by omega⟩
theorem FB.reachC {v x r g o : Int32} (h : FB m b P) (ht : t < 4) : FB (x_reachC m b t w v x r g o).2 b P := by
  unfold x_reachC
  exact cndi (fun q : QM => FB q.2 b P) (cndi (fun q : QM => FB q.2 b P) h (h.put _ ⟨by omega, by omega⟩)) (cndi (fun q : QM => FB q.2 b P) (h.put _ ⟨by omega, by omega⟩) (h.gwrite ht))
theorem reachL_fb {n5 : Nat} {v x r g o : Int32} (ht : t < 4) (hn : n5 ≤ 4) : ∀ (n k : Nat) (m : Nat → Nat → Int32), k + n = n5 → CG m b → FB m b P → FB (xl_reachL b t w v x r g o n5 n k m).2 b P := by
  intro n
  induction n with
  | zero => intro k m hk _ h; exact h.reachC ht
  | succ n ih =>
    intro k m hk hc h
    rw [xl_reachL]
    exact cndi (fun q : QM => FB q.2 b P) (ih _ _ (by omega) hc h) (ih _ _ (by omega) (hc.fall (by omega) (by omega)) (h.fall hc (by omega)))
theorem FB.reachB {v x r g : Int32} (h : FB m b P) (hc : CG m b) (ht : t < 4) : FB (x_reachB m b t w v x r g).2 b P := by
  unfold x_reachB
  have a := reachL_fb (P := P) (b := b) (w := w) (v := v) (x := x) (r := r) (g := g) (o := x_holders m b x (Int32.ofNat t) r) ht hc.c4 (mv m b 5) 0 m (by omega) hc h
  have f := h.fall (y := 0) hc ht
  generalize xl_reachL b t w v x r g (x_holders m b x (Int32.ofNat t) r) (mv m b 5) (mv m b 5) 0 m = c at a ⊢
  generalize x_fall m b t 0 = cf at f ⊢
  exact cndi (fun q : QM => FB q.2 b P) a (cndi (fun q : QM => FB q.2 b P) a (cndi (fun q : QM => FB q.2 b P) a f))
theorem FB.reach {v : Int32} (h : FB m b P) (hc : CG m b) (ht : t < 4) : FB (x_reach m b t w v).2 b P := by
  unfold x_reach
  have f := h.fall (y := 1) hc ht
  generalize x_fall m b t 1 = cf at f ⊢
  exact cndi (fun q : QM => FB q.2 b P) (cndi (fun q : QM => FB q.2 b P) (h.reachB hc ht) (h.reachB hc ht)) (cndi (fun q : QM => FB q.2 b P) (h.reachB hc ht) (cndi (fun q : QM => FB q.2 b P) (h.reachB hc ht) f))
theorem FB.leaveOut {l : Int32} (h : FB m b P) (ht : t < 4) : FB (x_leaveOut m b t l) b P := by
  unfold x_leaveOut
  exact cndi (fun q : Nat → Nat → Int32 => FB q b P) h ((h.put _ ⟨by omega, by omega⟩).put _ ⟨by omega, by omega⟩)
theorem FB.begin {x y z : Int32} (h : FB m b P) (ht : t < 4) : FB (x_begin m b t x y z) b P := by
  unfold x_begin
  exact (((h.put _ ⟨by omega, by omega⟩).put _ ⟨by omega, by omega⟩).put _ ⟨by omega, by omega⟩).put _ ⟨by omega, by omega⟩
theorem keepL_fb (ht : t < 4) (hl : l < 4) : ∀ (n k : Nat) (m : Nat → Nat → Int32), FB m b P → FB (xl_keep b t l n k m) b P := by
  intro n
  induction n with
  | zero =>
    intro k m h
    rw [xl_keep]
    exact FB.logAdd (((((h.close ht).put _ ⟨by omega, by omega⟩).put _ ⟨by omega, by omega⟩).gain hl).put _ ⟨by omega, by omega⟩) _ _ _ _
  | succ n ih =>
    intro k m h
    rw [xl_keep]
    exact ih _ _ (h.put _ ⟨by omega, by omega⟩)
theorem FB.keep (h : FB m b P) (ht : t < 4) (hl : l < 4) : FB (x_keep m b t l) b P := keepL_fb ht hl _ _ _ h
theorem FB.takePB (h : FB m b P) (hc : CG m b) (ht : t < 4) (hl : l < 4) : FB (x_takePB m b t l).2 b P := by
  unfold x_takePB
  have ar := h.reach (w := mv m (b + 5 + l) 0) (v := Int32.ofNat 1) hc ht
  have hb : ∀ y z, FB (x_begin m b t (m (b + 10 + 7 * t) 3) y z) b P := fun y z => h.begin ht
  generalize x_reach m b t (mv m (b + 5 + l) 0) (Int32.ofNat 1) = c at ar ⊢
  generalize m (b + 10 + 7 * t) 3 = A at hb ⊢
  have a1 : FB (zm2 (zm2 c.2 (b + 10 + 7 * t) 5 (Int32.ofNat 0)) (b + 5 + l) 2 (zm2 c.2 (b + 10 + 7 * t) 5 (Int32.ofNat 0) (b + 5 + l) 2 + Int32.ofNat 1)) b P := (ar.put _ ⟨by omega, by omega⟩).put _ ⟨by omega, by omega⟩
  generalize zm2 (zm2 c.2 (b + 10 + 7 * t) 5 (Int32.ofNat 0)) (b + 5 + l) 2 (zm2 c.2 (b + 10 + 7 * t) 5 (Int32.ofNat 0) (b + 5 + l) 2 + Int32.ofNat 1) = m1 at a1 ⊢
  have a2 : ∀ x y z u : Int32, FB (x_logAdd m1 b x y z u) b P := fun x y z u => a1.logAdd _ _ _ _
  have a3 : ∀ x y z u w : Int32, FB (x_logAdd (x_gain m1 b l w) b x y z u) b P := fun x y z u w => (a1.gain hl).logAdd _ _ _ _
  have a4 : ∀ y z u v p q r : Int32, FB (x_logAdd (zm2 (x_leaveOut (x_begin m b t A y z) b t (Int32.ofNat l)) (b + 14 + 7 * t) 6 u) b v p q r) b P := fun y z u v p q r => FB.logAdd (((hb y z).leaveOut ht).put _ ⟨by omega, by omega⟩) _ _ _ _
  exact cndi (fun q : QM => FB q.2 b P) (cndi (fun q : QM => FB q.2 b P) (cndi (fun q : QM => FB q.2 b P) (a2 _ _ _ _) (a3 _ _ _ _ _)) (cndi (fun q : QM => FB q.2 b P) (cndi (fun q : QM => FB q.2 b P) (a2 _ _ _ _) (a3 _ _ _ _ _)) (a4 _ _ _ _ _ _ _))) h
theorem FB.takePlainly (h : FB m b P) (hc : CG m b) (ht : t < 4) (hl : l < 4) : FB (x_takePlainly m b t l).2 b P := (h.reach hc ht).takePB (hc.reach ht) ht hl
theorem FB.takeGB (h : FB m b P) (hc : CG m b) (ht : t < 4) : FB (x_takeGB m b t l w).2 b P := by
  unfold x_takeGB
  have ar := h.reach (w := w) (v := Int32.ofNat 1) hc ht
  have f4 := h.fall (y := 4) hc ht
  have f2 := h.fall (y := 2) hc ht
  generalize x_reach m b t w (Int32.ofNat 1) = c at ar ⊢
  generalize x_fall m b t 4 = c4 at f4 ⊢
  generalize x_fall m b t 2 = c2 at f2 ⊢
  exact cndi (fun q : QM => FB q.2 b P) (cndi (fun q : QM => FB q.2 b P) (cndi (fun q : QM => FB q.2 b P) ar (h.leaveOut ht)) f4) f2
theorem FB.takeGuessing (h : FB m b P) (hc : CG m b) (ht : t < 4) : FB (x_takeGuessing m b t l).2 b P := by
  unfold x_takeGuessing
  have ar := h.reach (w := mv m (b + 5 + l) 0) (v := -1) hc ht
  have cr := hc.reach (w := mv m (b + 5 + l) 0) (v := -1) ht
  generalize x_reach m b t (mv m (b + 5 + l) 0) (-1) = c at ar cr ⊢
  exact cndi (fun q : QM => FB q.2 b P) (ar.takeGB cr ht) ar
theorem FB.getWord (h : FB m b P) (hc : CG m b) (ht : t < 4) : FB (x_getWord m b t w).2 b P := by
  unfold x_getWord
  have ar := h.reach (w := w) (v := -1) hc ht
  generalize x_reach m b t w (-1) = c at ar ⊢
  exact cndi (fun q : QM => FB q.2 b P) ar (ar.put _ ⟨by omega, by omega⟩)
theorem FB.dropLock (h : FB m b P) (hc : CG m b) (ht : t < 4) (hl : l < 4) : FB (x_dropLock m b t l).2 b P := by
  unfold x_dropLock
  have ar := h.reach (w := mv m (b + 5 + l) 0) (v := Int32.ofNat 0) hc ht
  have f2 := h.fall (y := 2) hc ht
  have hs : ∀ x, FB (zm2 m (b + 14 + 7 * t) 5 x) b P := fun x => h.put _ ⟨by omega, by omega⟩
  generalize x_reach m b t (mv m (b + 5 + l) 0) (Int32.ofNat 0) = c at ar ⊢
  generalize x_fall m b t 2 = c2 at f2 ⊢
  have al : ∀ x y z u : Int32, FB (x_logAdd c.2 b x y z u) b P := fun x y z u => ar.logAdd _ _ _ _
  exact cndi (fun q : QM => FB q.2 b P) (cndi (fun q : QM => FB q.2 b P) ar (cndi (fun q : QM => FB q.2 b P) ar (al _ _ _ _))) (cndi (fun q : QM => FB q.2 b P) (cndi (fun q : QM => FB q.2 b P) ar (cndi (fun q : QM => FB q.2 b P) ar (al _ _ _ _))) (cndi (fun q : QM => FB q.2 b P) (cndi (fun q : QM => FB q.2 b P) (hs _) ((hs _).keep ht hl)) f2))
theorem FB.goOnWorking {n : Int32} (h : FB m b P) (ht : t < 4) : FB (x_goOnWorking m b t n).2 b P := by
  unfold x_goOnWorking
  exact cndi (fun q : QM => FB q.2 b P) (h.put _ ⟨by omega, by omega⟩) (h.put _ ⟨by omega, by omega⟩)
theorem FB.putOut (h : FB m b P) (hc : CG m b) (ht : t < 4) : FB (x_putOut m b t).2 b P := by
  unfold x_putOut
  have f3 := h.fall (y := 3) hc ht
  generalize x_fall m b t 3 = c3 at f3 ⊢
  exact cndi (fun q : QM => FB q.2 b P) (cndi (fun q : QM => FB q.2 b P) (h.logAdd _ _ _ _) (FB.logAdd (((h.put _ ⟨by omega, by omega⟩).put _ ⟨by omega, by omega⟩).put _ ⟨by omega, by omega⟩) _ _ _ _)) f3
theorem FB.moveOn (h : FB m b P) (hc : CG m b) (ht : t < 4) : FB (x_moveOn m b t).2 b P := by
  unfold x_moveOn
  have c1 : CG (zm2 (zm2 m (b + 10 + 7 * t) 3 (m (b + 10 + 7 * t) 3 + Int32.ofNat 1)) (b + 10 + 7 * t) 7 (Int32.ofNat 0)) b := (hc.put _ (ncS ht)).put _ (ncS ht)
  have h1 : FB (zm2 (zm2 m (b + 10 + 7 * t) 3 (m (b + 10 + 7 * t) 3 + Int32.ofNat 1)) (b + 10 + 7 * t) 7 (Int32.ofNat 0)) b P := (h.put _ ⟨by omega, by omega⟩).put _ ⟨by omega, by omega⟩
  generalize zm2 (zm2 m (b + 10 + 7 * t) 3 (m (b + 10 + 7 * t) 3 + Int32.ofNat 1)) (b + 10 + 7 * t) 7 (Int32.ofNat 0) = m1 at h1 c1 ⊢
  exact cndi (fun q : QM => FB q.2 b P) (cndi (fun q : QM => FB q.2 b P) (h1.logAdd _ _ _ _) (h1.fall c1 ht)) h1
theorem FB.stepE {r : Int32} (h : FB m b P) (hc : CG m b) (ht : t < 4) : FB (x_stepE m b t r).2 b P := by
  unfold x_stepE
  have a := h.moveOn hc ht
  generalize x_moveOn m b t = c at a ⊢
  exact cndi (fun q : QM => FB q.2 b P) ((h.put _ ⟨by omega, by omega⟩).put _ ⟨by omega, by omega⟩) ((a.put _ ⟨by omega, by omega⟩).put _ ⟨by omega, by omega⟩)
theorem FB.takeStep (h : FB m b P) (hc : CG m b) (hk : KX m b (fun u => u = t)) (ht : t < 4) : FB (x_takeStep m b t).2 b P := by
  have hD := hk.1 t ht
  have hA24 : mv m (b + 10 + 7 * t) 3 < 24 := hk.2.2 t ht rfl
  obtain ⟨k1, k2, k3, k4⟩ := hD.2.2.2.2 _ hA24
  unfold x_takeStep
  generalize hK : mv m (b + 11 + 7 * t) (mv m (b + 10 + 7 * t) 3) = K at k3 k4
  have hK7 : K ≤ 7 := by rw [← hK]; exact k1.2
  match K, hK7, k3, k4 with
  | 0, _, k3, _ =>
    have := k3 (by omega)
    show FB (x_takeStep0 m b t).2 b P
    unfold x_takeStep0
    exact cndi (fun q : QM => FB q.2 b P) ((h.takePlainly hc ht (by omega)).stepE (hc.takePlainly ht (by omega)) ht) ((h.takeGuessing hc ht).stepE (hc.takeGuessing ht (by omega)) ht)
  | 1, _, k3, _ =>
    have := k3 (by omega)
    exact (h.dropLock hc ht (by omega)).stepE (hc.dropLock ht (by omega)) ht
  | 2, _, _, _ => exact (h.getWord hc ht).stepE (hc.getWord ht) ht
  | 3, _, _, _ => exact (h.reach hc ht).stepE (hc.reach ht) ht
  | 4, _, _, _ => exact (h.put _ ⟨by omega, by omega⟩).stepE (hc.put _ (ncS ht)) ht
  | 5, _, _, _ => exact (h.put _ ⟨by omega, by omega⟩).stepE (hc.put _ (ncS ht)) ht
  | 6, _, _, _ =>
    refine (h.goOnWorking ht).stepE ?_ ht
    unfold x_goOnWorking
    exact cndi (fun q : QM => CG q.2 b) (hc.put _ (ncS ht)) (hc.put _ (ncS ht))
  | 7, _, _, _ => exact (h.putOut hc ht).stepE (hc.putOut ht) ht
  | k + 8, h8, _, _ => exact absurd h8 (by omega)
theorem FB.reachXC {v x r o : Int32} (h : FB m b P) : FB (x_reachXC m b w v x r o).2 b P := by
  unfold x_reachXC
  exact cndi (fun q : QM => FB q.2 b P) h (h.put _ ⟨by omega, by omega⟩)
theorem KX.reachXC {Q : Nat → Prop} {v x r o : Int32} (h : KX m b Q) : KX (x_reachXC m b w v x r o).2 b Q := by
  unfold x_reachXC
  exact cndi (fun q : QM => KX q.2 b Q) h (h.put _ (ndX (by omega) (by omega)))
theorem CG.reachXC {v x r o : Int32} (h : CG m b) : CG (x_reachXC m b w v x r o).2 b := by
  unfold x_reachXC
  exact cndi (fun q : QM => CG q.2 b) h (h.put _ ncW)
theorem reachXL_ok {Q : Nat → Prop} {n5 : Nat} {v x r o : Int32} (hn : n5 ≤ 4) : ∀ (n k : Nat) (m : Nat → Nat → Int32), k + n = n5 → CG m b → KX m b Q → FB m b P → CG (xl_reachXL b w v x r o n5 n k m).2 b ∧ KX (xl_reachXL b w v x r o n5 n k m).2 b Q ∧ FB (xl_reachXL b w v x r o n5 n k m).2 b P := by
  intro n
  induction n with
  | zero => intro k m hk hc h f; exact ⟨hc.reachXC, h.reachXC, f.reachXC⟩
  | succ n ih =>
    intro k m hk hc h f
    rw [xl_reachXL]
    exact cndi (fun q : QM => CG q.2 b ∧ KX q.2 b Q ∧ FB q.2 b P) (ih _ _ (by omega) hc h f) (ih _ _ (by omega) (hc.fall (by omega) (by omega)) (h.fall hc (by omega)) (f.fall hc (by omega)))
theorem reachX_ok {Q : Nat → Prop} {v : Int32} (hc : CG m b) (h : KX m b Q) (f : FB m b P) : CG (x_reachX m b w v).2 b ∧ KX (x_reachX m b w v).2 b Q ∧ FB (x_reachX m b w v).2 b P := by
  unfold x_reachX
  exact cndi (fun q : QM => CG q.2 b ∧ KX q.2 b Q ∧ FB q.2 b P) (reachXL_ok hc.c4 _ _ _ (by omega) hc h f) (reachXL_ok hc.c4 _ _ _ (by omega) hc h f)
/-- a thread that is not done has a deed to do -/
theorem KX.run (h : KX m b P0) (ht : t < 4) (hd : x_sDone m b t = 0) : KX m b (fun u => u = t) := by
  refine ⟨h.1, h.2.1, fun u hu e => ?_⟩
  subst e
  obtain ⟨d2, d3, _⟩ := h.1 u hu
  unfold x_sDone at hd
  cases hz : zc2 .lt (m (b + 10 + 7 * u) 3) (m (b + 10 + 7 * u) 2) with
  | true =>
    rw [d3.1, d2.1] at hz
    have := zlt_t (by have := d3.2; omega) (by have := d2.2; omega) hz
    have := d2.2
    omega
  | false =>
    rw [hz] at hd
    exact absurd hd (by dsimp only [cond_false]; decide)
theorem c1ne0 {x : Int32} (h : zc1 .ne x = false) : x = 0 := Classical.byContradiction (fun q => of_decide_eq_false h q)
theorem ntL {N : Nat} (h4 : mv m b 5 ≤ 4) (hN : N = mv m b 5) : ∀ (n k : Nat), 1 ≤ k → k + n = N + 1 → xl_nextByTurn m b n k = -1 ∨ ∃ t, t < 4 ∧ xl_nextByTurn m b n k = Int32.ofNat t ∧ x_sDone m b t = 0 := by
  intro n
  induction n with
  | zero => intro k _ _; exact Or.inl rfl
  | succ n ih =>
    intro k h1 hk
    rw [xl_nextByTurn]
    have hm : (ltc m b + (k - 1)) % mv m b 5 < mv m b 5 := Nat.mod_lt _ (by omega)
    exact cnd4 (fun X : Int32 => X = -1 ∨ ∃ t, t < 4 ∧ X = Int32.ofNat t ∧ x_sDone m b t = 0) (fun _ => ih _ (by omega) (by omega)) (fun e => Or.inr ⟨_, by omega, rfl, c1ne0 e⟩)
theorem ndL2 : ∀ (n : Nat) (a : Int32) (k : Nat), k + n ≤ 4 → xl_nextByDraw m b n a k = -1 ∨ ∃ t, t < 4 ∧ xl_nextByDraw m b n a k = Int32.ofNat t ∧ x_sDone m b t = 0 := by
  intro n
  induction n with
  | zero => intro a k _; exact Or.inl rfl
  | succ n ih =>
    intro a k hk
    rw [xl_nextByDraw]
    exact cnd4 (fun X : Int32 => X = -1 ∨ ∃ t, t < 4 ∧ X = Int32.ofNat t ∧ x_sDone m b t = 0) (fun _ => ih _ _ (by omega)) (fun e => cnd4 (fun X : Int32 => X = -1 ∨ ∃ t, t < 4 ∧ X = Int32.ofNat t ∧ x_sDone m b t = 0) (fun _ => ih _ _ (by omega)) (fun _ => Or.inr ⟨k, by omega, rfl, c1ne0 e⟩))
/-- whose turn it is: a number of a thread that has a deed -/
noncomputable def NX (m : Nat → Nat → Int32) (b : Nat) (X : Int32) : Prop := X = Int32.ofNat X.toNatClampNeg ∧ X.toNatClampNeg < 4 ∧ x_sDone m b X.toNatClampNeg = 0
theorem NX.mk {X : Int32} (h : X = -1 ∨ ∃ t, t < 4 ∧ X = Int32.ofNat t ∧ x_sDone m b t = 0) (hne : X ≠ -1) : NX m b X := by
  rcases h with h | ⟨t, ht, e, hd⟩
  · exact absurd h hne
  · subst e
    unfold NX
    rw [nv_on (by omega)]
    exact ⟨rfl, ht, hd⟩
theorem ne1_of {X : Int32} (h : zc2 .ne X (-1) = true) : X ≠ -1 := of_decide_eq_true h
theorem ne1_of2 {X : Int32} (h : zc2 .eq X (-1) = false) : X ≠ -1 := of_decide_eq_false h
theorem nt_ok (hc : CG m b) (h : x_nextByTurn m b ≠ -1) : NX m b (x_nextByTurn m b) := NX.mk (ntL hc.c4 rfl _ _ (by omega) (by omega)) h
theorem draw_ok {x : Int32} {Q : Nat → Prop} (hk : KX m b Q) (hf : FB m b P) : KX (x_draw m b x).2 b Q ∧ FB (x_draw m b x).2 b P := by
  unfold x_draw
  exact cndi (fun q : QM => KX q.2 b Q ∧ FB q.2 b P) ⟨hk.put _ (ndM (by omega)), hf.put _ ⟨by omega, by omega⟩⟩ ⟨hk.put _ (ndM (by omega)), hf.put _ ⟨by omega, by omega⟩⟩
theorem nd_ok {Q : Nat → Prop} (hc : CG m b) (hk : KX m b Q) (hf : FB m b P) : CG (x_nextByDraw m b).2 b ∧ KX (x_nextByDraw m b).2 b Q ∧ FB (x_nextByDraw m b).2 b P ∧ ((x_nextByDraw m b).1 ≠ -1 → NX (x_nextByDraw m b).2 b (x_nextByDraw m b).1) := by
  unfold x_nextByDraw
  have a := hc.draw (x := m b 5 - x_bitCount (x_doneBits m b))
  have c := draw_ok (x := m b 5 - x_bitCount (x_doneBits m b)) hk hf
  refine cndi (fun q : QM => CG q.2 b ∧ KX q.2 b Q ∧ FB q.2 b P ∧ (q.1 ≠ -1 → NX q.2 b q.1)) ⟨a, c.1, c.2, fun hne => NX.mk (ndL2 _ _ _ (by have := a.c4; omega)) hne⟩ ⟨hc, hk, hf, fun hne => absurd rfl hne⟩
end ZFB

section ZFC
variable {m m' : Nat → Nat → Int32} {b t : Nat} {P : Nat → Nat → Int32} {Q : Nat → Prop}
theorem takeStep_kc (hb : BB b) (hc : CG m b) (h : KX m b (fun u => u = t)) (ht : t < 4) : KX (x_takeStep m b t).2 b P0 ∧ CG (x_takeStep m b t).2 b := (xc_takeStep (σ := fun _ => (0, fun _ => 0)) (yy := (fun _ _ => 0, true, 0, 0)) hb hc h ht).2
theorem CG.far {a k : Nat} {x : Int32} (h : CG m b) (ha : a < b ∨ b + 42 ≤ a) : CG (zm2 m a k x) b := h.same (fun i l hi => zx_ne _ _ _ (by
  intro e
  subst e
  rcases hi with ⟨e, _⟩ | ⟨e, _⟩ | ⟨t, ht, ⟨e, _⟩ | e⟩ | ⟨l, hl, e, _⟩ <;> omega))
theorem CG.fb {c : Nat} (h : CG P b) (hf : FB m c P) (hbc : b + 42 ≤ c ∨ c + 42 ≤ b) : CG m b := h.same (fun i l hi => hf i l (by
  rcases hi with ⟨e, _⟩ | ⟨e, _⟩ | ⟨t, ht, ⟨e, _⟩ | e⟩ | ⟨l, hl, e, _⟩ <;> omega))
theorem KX.far {a k : Nat} {x : Int32} (h : KX m b Q) (ha : a < b ∨ b + 42 ≤ a) : KX (zm2 m a k x) b Q := h.same (fun i l hi => zx_ne _ _ _ (by
  intro e
  subst e
  rcases hi with ⟨e, _⟩ | ⟨t, ht, ⟨e, _⟩ | ⟨e, _⟩ | e | e⟩ <;> omega))
theorem KX.fb {c : Nat} (h : KX P b Q) (hf : FB m c P) (hbc : b + 42 ≤ c ∨ c + 42 ≤ b) : KX m b Q := h.same (fun i l hi => hf i l (by
  rcases hi with ⟨e, _⟩ | ⟨t, ht, ⟨e, _⟩ | ⟨e, _⟩ | e | e⟩ <;> omega))
theorem FB.copy {c : Nat} (hbc : b + 42 ≤ c ∨ c + 42 ≤ b) (hc : CG m c) (h : FB m b P) : FB (x_copyFrom m b c) b P := fun i l hi => ((copy_all hbc hc.c hc.c4).1 i l (by omega)).trans (h i l hi)
theorem zS131 : zS1[131]? = some (4, 0, [2, 133, 134, 135, 136, 137, 0, 0, 0, 0]) := rfl
theorem xc_forget {σ : Nat → Nat × (Nat → Int32)} {yy : (Nat → Nat → Int64) × Bool × Nat × Nat} : zF σ 1 801 [.ref 131] (zS1, m, yy) (.inl none) (zS1, zm2 m 131 8 (Int32.ofNat 0), yy) := by
  intro d hd
  obtain ⟨d, rfl⟩ : ∃ k, d = k + 1 := ⟨d - 1, by omega⟩
  show zEv σ (d + 1) 801 0 [some (.ref 131)] [] _ _ _
  refine zeP rfl rfl ?_
  refine zeKn (c := 0) rfl rfl rfl ?_
  refine zePB rfl rfl zS131 rfl (by decide) ?_
  exact zeRe rfl rfl rfl rfl rfl rfl
end ZFC
end
