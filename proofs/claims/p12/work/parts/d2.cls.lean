theorem zne_eq {a c : Nat} (ha : a < 2147483648) (hc : c < 2147483648) (h : zc2 .ne (Int32.ofNat a) (Int32.ofNat c) = false) : a = c := by
  have e := of_decide_eq_false h
  have e2 : Int32.ofNat a = Int32.ofNat c := Classical.byContradiction (fun q => e q)
  have e3 := congrArg Int32.toInt e2
  rw [zoN ha, zoN hc] at e3
  omega
noncomputable def xl_blocksL0 (m : Nat → Nat → Int32) (b : Nat) (t : Nat) : Nat → Int32 → Nat → Int32
  | 0, a, k => a
  | n + 1, a, k => (bif zc2 .ne (Int32.ofNat (mv m (b + 11 + 7 * t) k)) (Int32.ofNat 0) then (xl_blocksL0 m b t n a ((k + 1))) else (xl_blocksL0 m b t n ((a ||| (x_blockBit m b ((m ((b + 5 + ((mv m (b + 12 + 7 * t) k)))) 0))))) ((k + 1))))
theorem xw_blocksL0 {σ : Nat → Nat × (Nat → Int32)} {yy : (Nat → Nat → Int64) × Bool × Nat × Nat} {m : Nat → Nat → Int32} {b : Nat} {t : Nat} {d : Nat} (hd : 2 ≤ d + 1) (hb : BB b) (ht : t < 4) (hD : DT m b t) (h24 : mv m (b + 10 + 7 * t) 2 ≤ 24) : ∀ (n : Nat) (a : Int32) (k : Nat) (x5 : Option Value) (x6 : Option Value), k + n = mv m (b + 10 + 7 * t) 2 → zEv σ (d + 1) 625 5 [some (.ref b), some (.ref (b + 10 + 7 * t)), some (.int (Int32.ofNat 0)), some (.int a), some (.int (Int32.ofNat k)), x5, x6] [] (zS1, m, yy) (.inl (some (.int (xl_blocksL0 m b t n a k)))) (zS1, m, yy) := by
  intro n
  induction n with
  | zero =>
    intro a k x5 x6 hk
    refine zeP rfl rfl ?_
    refine zeP rfl rfl ?_
    refine zeGI rfl rfl (shS hb (by first | exact zq_adn (by decide) | exact zq_adr (zq_adn (by decide)) | omega)) rfl rfl ?_
    rw [hD.1.1]
    refine zeT2 rfl rfl (zcge (by first | exact zq_adn (by decide) | exact zq_adr (zq_adn (by decide)) | omega) (by first | exact zq_adn (by decide) | exact zq_adr (zq_adn (by decide)) | omega) (by first | exact zq_adn (by decide) | exact zq_adr (zq_adn (by decide)) | omega)) ?_
    refine zeP rfl rfl ?_
    exact zeRe rfl rfl rfl rfl (by rfl) (by rfl)
  | succ n ih =>
    intro a k x5 x6 hk
    refine zeP rfl rfl ?_
    refine zeP rfl rfl ?_
    refine zeGI rfl rfl (shS hb (by first | exact zq_adn (by decide) | exact zq_adr (zq_adn (by decide)) | omega)) rfl rfl ?_
    rw [hD.1.1]
    refine zeF2 rfl rfl (zcge_f (by first | exact zq_adn (by decide) | exact zq_adr (zq_adn (by decide)) | omega) (by first | exact zq_adn (by decide) | exact zq_adr (zq_adn (by decide)) | omega) (by first | exact zq_adn (by decide) | exact zq_adr (zq_adn (by decide)) | omega)) ?_
    refine zeP rfl rfl ?_
    refine zeP rfl rfl ?_
    refine zeCV rfl rfl rfl rfl (shS hb (by first | exact zq_adn (by decide) | exact zq_adr (zq_adn (by decide)) | omega)) rfl (xc_kindAt (m := m) (b := b) (t := t) (p := k) hb ht (by first | exact zq_adn (by decide) | exact zq_adr (zq_adn (by decide)) | omega)) (by first | exact zq_adn (by decide) | exact zq_adr (zq_adn (by decide)) | omega) ?_
    dsimp only [Option.toList, List.cons_append, List.nil_append]
    rw [(show x_kindAt m b t k = Int32.ofNat (mv m (b + 11 + 7 * t) k) from (hD.2.2.2.2 k (by first | exact zq_adn (by decide) | exact zq_adr (zq_adn (by decide)) | omega)).1.1)]
    refine zeP rfl rfl ?_
    refine zeB2 rfl rfl (fun h1 => ?_) (fun h1 => ?_)
    · refine zeInc rfl rfl ?_
      refine zeP rfl rfl ?_
      simp only [xl_blocksL0, h1, cond_true, cond_false]
      exact ih (a) ((k + 1)) (x5) (x6)   (by first | exact zq_adn (by decide) | exact zq_adr (zq_adn (by decide)) | omega) 
    · refine zeP rfl rfl ?_
      refine zeP rfl rfl ?_
      refine zeCV rfl rfl rfl rfl (shS hb (by first | exact zq_adn (by decide) | exact zq_adr (zq_adn (by decide)) | omega)) rfl (xc_numberAt (m := m) (b := b) (t := t) (p := k) hb ht (by first | exact zq_adn (by decide) | exact zq_adr (zq_adn (by decide)) | omega)) (by first | exact zq_adn (by decide) | exact zq_adr (zq_adn (by decide)) | omega) ?_
      dsimp only [Option.toList, List.cons_append, List.nil_append]
      rw [(show x_numberAt m b t k = Int32.ofNat (mv m (b + 12 + 7 * t) k) from (hD.2.2.2.2 k (by first | exact zq_adn (by decide) | exact zq_adr (zq_adn (by decide)) | omega)).2.1.1)]
      refine zeP rfl rfl ?_
      refine zeP rfl rfl ?_
      refine zeT1 rfl rfl (show zc1 .eq (Int32.ofNat 0) = true by decide) ?_
      refine zeKn (c := 1) rfl rfl rfl ?_
      refine zeP rfl rfl ?_
      refine zeP rfl rfl ?_
      have hq4 : mv m (b + 12 + 7 * t) k < 4 := by
        have e1 := zne_eq (a := mv m (b + 11 + 7 * t) k) (c := 0) (by have := (hD.2.2.2.2 k (by first | exact zq_adn (by decide) | exact zq_adr (zq_adn (by decide)) | omega)).1.2; omega) (by first | exact zq_adn (by decide) | exact zq_adr (zq_adn (by decide)) | omega) (by assumption)
        have e2 := (hD.2.2.2.2 k (by first | exact zq_adn (by decide) | exact zq_adr (zq_adn (by decide)) | omega)).2.2.1
        omega
      refine zeP rfl rfl ?_
      refine zeP rfl rfl ?_
      refine zeP rfl rfl ?_
      refine zeF1 rfl rfl (show zc1 .eq (Int32.ofNat 1) = false by decide) ?_
      refine zeP rfl rfl ?_
      refine zeP rfl rfl ?_
      refine zeCV rfl rfl rfl rfl (shM hb) rfl (xc_lockAt (m := m) (b := b) (l := (mv m (b + 12 + 7 * t) k)) hb hq4) (by first | exact zq_adn (by decide) | exact zq_adr (zq_adn (by decide)) | omega) ?_
      dsimp only [Option.toList, List.cons_append, List.nil_append]
      refine zeGI rfl rfl (shL hb (by first | exact zq_adn (by decide) | exact zq_adr (zq_adn (by decide)) | omega)) rfl rfl ?_
      refine zeP rfl rfl ?_
      refine zeCV rfl rfl rfl rfl (shM hb) rfl (xc_blockBit (m := m) (b := b) (w := (m ((b + 5 + ((mv m (b + 12 + 7 * t) k)))) 0)) hb) (by first | exact zq_adn (by decide) | exact zq_adr (zq_adn (by decide)) | omega) ?_
      dsimp only [Option.toList, List.cons_append, List.nil_append]
      refine zeP rfl rfl ?_
      refine zeP rfl rfl ?_
      refine zeInc rfl rfl ?_
      refine zeP rfl rfl ?_
      simp only [xl_blocksL0, h1, cond_true, cond_false]
      exact ih ((a ||| (x_blockBit m b ((m ((b + 5 + ((mv m (b + 12 + 7 * t) k)))) 0))))) ((k + 1)) (some (.int (Int32.ofNat (mv m (b + 12 + 7 * t) k)))) (some (.int (Int32.ofNat 1)))   (by first | exact zq_adn (by decide) | exact zq_adr (zq_adn (by decide)) | omega) 
noncomputable def x_blocksOf0 (m : Nat → Nat → Int32) (b : Nat) (t : Nat) : Int32 := (xl_blocksL0 m b t ((mv m (b + 10 + 7 * t) 2)) ((Int32.ofNat 0)) 0)
theorem xp_blocksOf0 {σ : Nat → Nat × (Nat → Int32)} {yy : (Nat → Nat → Int64) × Bool × Nat × Nat} {m : Nat → Nat → Int32} {b : Nat} {t : Nat} {d : Nat} (hd : 2 ≤ d + 1) (hb : BB b) (ht : t < 4) (hD : DT m b t) : zEv σ (d + 1) 625 0 [some (.ref b), some (.ref (b + 10 + 7 * t)), some (.int (Int32.ofNat 0)), none, none, none, none] [] (zS1, m, yy) (.inl (some (.int (x_blocksOf0 m b t)))) (zS1, m, yy) := by
  refine zeKn (c := 0) rfl rfl rfl ?_
  refine zeP rfl rfl ?_
  refine zeKn (c := 0) rfl rfl rfl ?_
  refine zeP rfl rfl ?_
  simp only [x_blocksOf0, cond_true, cond_false]
  exact xw_blocksL0 (b := b) (t := t) (m := m) (by first | exact zq_adn (by decide) | exact zq_adr (zq_adn (by decide)) | omega) hb ht hD hD.1.2 ((mv m (b + 10 + 7 * t) 2)) ((Int32.ofNat 0)) (0) (none) (none)   (by first | exact zq_adn (by decide) | exact zq_adr (zq_adn (by decide)) | omega) 
theorem xc_blocksOf0 {σ : Nat → Nat × (Nat → Int32)} {yy : (Nat → Nat → Int64) × Bool × Nat × Nat} {m : Nat → Nat → Int32} {b : Nat} {t : Nat} (hb : BB b) (ht : t < 4) (hD : DT m b t) : zF σ 2 625 [.ref b, .ref (b + 10 + 7 * t), .int (Int32.ofNat 0)] (zS1, m, yy) (.inl (some (.int (x_blocksOf0 m b t)))) (zS1, m, yy) := by
  intro d hd
  obtain ⟨d, rfl⟩ : ∃ k, d = k + 1 := ⟨d - 1, by omega⟩
  exact xp_blocksOf0 hd hb ht hD
noncomputable def xl_blocksL1 (m : Nat → Nat → Int32) (b : Nat) (t : Nat) : Nat → Int32 → Nat → Int32
  | 0, a, k => a
  | n + 1, a, k => (bif zc2 .ne (Int32.ofNat (mv m (b + 11 + 7 * t) k)) (Int32.ofNat 1) then (xl_blocksL1 m b t n a ((k + 1))) else (xl_blocksL1 m b t n ((a ||| (x_blockBit m b ((m ((b + 5 + ((mv m (b + 12 + 7 * t) k)))) 0))))) ((k + 1))))
theorem xw_blocksL1 {σ : Nat → Nat × (Nat → Int32)} {yy : (Nat → Nat → Int64) × Bool × Nat × Nat} {m : Nat → Nat → Int32} {b : Nat} {t : Nat} {d : Nat} (hd : 2 ≤ d + 1) (hb : BB b) (ht : t < 4) (hD : DT m b t) (h24 : mv m (b + 10 + 7 * t) 2 ≤ 24) : ∀ (n : Nat) (a : Int32) (k : Nat) (x5 : Option Value) (x6 : Option Value), k + n = mv m (b + 10 + 7 * t) 2 → zEv σ (d + 1) 625 5 [some (.ref b), some (.ref (b + 10 + 7 * t)), some (.int (Int32.ofNat 1)), some (.int a), some (.int (Int32.ofNat k)), x5, x6] [] (zS1, m, yy) (.inl (some (.int (xl_blocksL1 m b t n a k)))) (zS1, m, yy) := by
  intro n
  induction n with
  | zero =>
    intro a k x5 x6 hk
    refine zeP rfl rfl ?_
    refine zeP rfl rfl ?_
    refine zeGI rfl rfl (shS hb (by first | exact zq_adn (by decide) | exact zq_adr (zq_adn (by decide)) | omega)) rfl rfl ?_
    rw [hD.1.1]
    refine zeT2 rfl rfl (zcge (by first | exact zq_adn (by decide) | exact zq_adr (zq_adn (by decide)) | omega) (by first | exact zq_adn (by decide) | exact zq_adr (zq_adn (by decide)) | omega) (by first | exact zq_adn (by decide) | exact zq_adr (zq_adn (by decide)) | omega)) ?_
    refine zeP rfl rfl ?_
    exact zeRe rfl rfl rfl rfl (by rfl) (by rfl)
  | succ n ih =>
    intro a k x5 x6 hk
    refine zeP rfl rfl ?_
    refine zeP rfl rfl ?_
    refine zeGI rfl rfl (shS hb (by first | exact zq_adn (by decide) | exact zq_adr (zq_adn (by decide)) | omega)) rfl rfl ?_
    rw [hD.1.1]
    refine zeF2 rfl rfl (zcge_f (by first | exact zq_adn (by decide) | exact zq_adr (zq_adn (by decide)) | omega) (by first | exact zq_adn (by decide) | exact zq_adr (zq_adn (by decide)) | omega) (by first | exact zq_adn (by decide) | exact zq_adr (zq_adn (by decide)) | omega)) ?_
    refine zeP rfl rfl ?_
    refine zeP rfl rfl ?_
    refine zeCV rfl rfl rfl rfl (shS hb (by first | exact zq_adn (by decide) | exact zq_adr (zq_adn (by decide)) | omega)) rfl (xc_kindAt (m := m) (b := b) (t := t) (p := k) hb ht (by first | exact zq_adn (by decide) | exact zq_adr (zq_adn (by decide)) | omega)) (by first | exact zq_adn (by decide) | exact zq_adr (zq_adn (by decide)) | omega) ?_
    dsimp only [Option.toList, List.cons_append, List.nil_append]
    rw [(show x_kindAt m b t k = Int32.ofNat (mv m (b + 11 + 7 * t) k) from (hD.2.2.2.2 k (by first | exact zq_adn (by decide) | exact zq_adr (zq_adn (by decide)) | omega)).1.1)]
    refine zeP rfl rfl ?_
    refine zeB2 rfl rfl (fun h1 => ?_) (fun h1 => ?_)
    · refine zeInc rfl rfl ?_
      refine zeP rfl rfl ?_
      simp only [xl_blocksL1, h1, cond_true, cond_false]
      exact ih (a) ((k + 1)) (x5) (x6)   (by first | exact zq_adn (by decide) | exact zq_adr (zq_adn (by decide)) | omega) 
    · refine zeP rfl rfl ?_
      refine zeP rfl rfl ?_
      refine zeCV rfl rfl rfl rfl (shS hb (by first | exact zq_adn (by decide) | exact zq_adr (zq_adn (by decide)) | omega)) rfl (xc_numberAt (m := m) (b := b) (t := t) (p := k) hb ht (by first | exact zq_adn (by decide) | exact zq_adr (zq_adn (by decide)) | omega)) (by first | exact zq_adn (by decide) | exact zq_adr (zq_adn (by decide)) | omega) ?_
      dsimp only [Option.toList, List.cons_append, List.nil_append]
      rw [(show x_numberAt m b t k = Int32.ofNat (mv m (b + 12 + 7 * t) k) from (hD.2.2.2.2 k (by first | exact zq_adn (by decide) | exact zq_adr (zq_adn (by decide)) | omega)).2.1.1)]
      refine zeP rfl rfl ?_
      refine zeP rfl rfl ?_
      refine zeF1 rfl rfl (show zc1 .eq (Int32.ofNat 1) = false by decide) ?_
      refine zeP rfl rfl ?_
      refine zeKn (c := 1) rfl rfl rfl ?_
      refine zeF2 rfl rfl (show zc2 .ne (Int32.ofNat 1) (Int32.ofNat 1) = false by decide) ?_
      refine zeKn (c := 1) rfl rfl rfl ?_
      refine zeP rfl rfl ?_
      refine zeP rfl rfl ?_
      have hq4 : mv m (b + 12 + 7 * t) k < 4 := by
        have e1 := zne_eq (a := mv m (b + 11 + 7 * t) k) (c := 1) (by have := (hD.2.2.2.2 k (by first | exact zq_adn (by decide) | exact zq_adr (zq_adn (by decide)) | omega)).1.2; omega) (by first | exact zq_adn (by decide) | exact zq_adr (zq_adn (by decide)) | omega) (by assumption)
        have e2 := (hD.2.2.2.2 k (by first | exact zq_adn (by decide) | exact zq_adr (zq_adn (by decide)) | omega)).2.2.1
        omega
      refine zeP rfl rfl ?_
      refine zeP rfl rfl ?_
      refine zeP rfl rfl ?_
      refine zeF1 rfl rfl (show zc1 .eq (Int32.ofNat 1) = false by decide) ?_
      refine zeP rfl rfl ?_
      refine zeP rfl rfl ?_
      refine zeCV rfl rfl rfl rfl (shM hb) rfl (xc_lockAt (m := m) (b := b) (l := (mv m (b + 12 + 7 * t) k)) hb hq4) (by first | exact zq_adn (by decide) | exact zq_adr (zq_adn (by decide)) | omega) ?_
      dsimp only [Option.toList, List.cons_append, List.nil_append]
      refine zeGI rfl rfl (shL hb (by first | exact zq_adn (by decide) | exact zq_adr (zq_adn (by decide)) | omega)) rfl rfl ?_
      refine zeP rfl rfl ?_
      refine zeCV rfl rfl rfl rfl (shM hb) rfl (xc_blockBit (m := m) (b := b) (w := (m ((b + 5 + ((mv m (b + 12 + 7 * t) k)))) 0)) hb) (by first | exact zq_adn (by decide) | exact zq_adr (zq_adn (by decide)) | omega) ?_
      dsimp only [Option.toList, List.cons_append, List.nil_append]
      refine zeP rfl rfl ?_
      refine zeP rfl rfl ?_
      refine zeInc rfl rfl ?_
      refine zeP rfl rfl ?_
      simp only [xl_blocksL1, h1, cond_true, cond_false]
      exact ih ((a ||| (x_blockBit m b ((m ((b + 5 + ((mv m (b + 12 + 7 * t) k)))) 0))))) ((k + 1)) (some (.int (Int32.ofNat (mv m (b + 12 + 7 * t) k)))) (some (.int (Int32.ofNat 1)))   (by first | exact zq_adn (by decide) | exact zq_adr (zq_adn (by decide)) | omega) 
noncomputable def x_blocksOf1 (m : Nat → Nat → Int32) (b : Nat) (t : Nat) : Int32 := (xl_blocksL1 m b t ((mv m (b + 10 + 7 * t) 2)) ((Int32.ofNat 0)) 0)
theorem xp_blocksOf1 {σ : Nat → Nat × (Nat → Int32)} {yy : (Nat → Nat → Int64) × Bool × Nat × Nat} {m : Nat → Nat → Int32} {b : Nat} {t : Nat} {d : Nat} (hd : 2 ≤ d + 1) (hb : BB b) (ht : t < 4) (hD : DT m b t) : zEv σ (d + 1) 625 0 [some (.ref b), some (.ref (b + 10 + 7 * t)), some (.int (Int32.ofNat 1)), none, none, none, none] [] (zS1, m, yy) (.inl (some (.int (x_blocksOf1 m b t)))) (zS1, m, yy) := by
  refine zeKn (c := 0) rfl rfl rfl ?_
  refine zeP rfl rfl ?_
  refine zeKn (c := 0) rfl rfl rfl ?_
  refine zeP rfl rfl ?_
  simp only [x_blocksOf1, cond_true, cond_false]
  exact xw_blocksL1 (b := b) (t := t) (m := m) (by first | exact zq_adn (by decide) | exact zq_adr (zq_adn (by decide)) | omega) hb ht hD hD.1.2 ((mv m (b + 10 + 7 * t) 2)) ((Int32.ofNat 0)) (0) (none) (none)   (by first | exact zq_adn (by decide) | exact zq_adr (zq_adn (by decide)) | omega) 
theorem xc_blocksOf1 {σ : Nat → Nat × (Nat → Int32)} {yy : (Nat → Nat → Int64) × Bool × Nat × Nat} {m : Nat → Nat → Int32} {b : Nat} {t : Nat} (hb : BB b) (ht : t < 4) (hD : DT m b t) : zF σ 2 625 [.ref b, .ref (b + 10 + 7 * t), .int (Int32.ofNat 1)] (zS1, m, yy) (.inl (some (.int (x_blocksOf1 m b t)))) (zS1, m, yy) := by
  intro d hd
  obtain ⟨d, rfl⟩ : ∃ k, d = k + 1 := ⟨d - 1, by omega⟩
  exact xp_blocksOf1 hd hb ht hD
noncomputable def xl_blocksL2 (m : Nat → Nat → Int32) (b : Nat) (t : Nat) : Nat → Int32 → Nat → Int32
  | 0, a, k => a
  | n + 1, a, k => (bif zc2 .ne (Int32.ofNat (mv m (b + 11 + 7 * t) k)) (Int32.ofNat 2) then (xl_blocksL2 m b t n a ((k + 1))) else (xl_blocksL2 m b t n ((a ||| (x_blockBit m b ((Int32.ofNat (mv m (b + 12 + 7 * t) k)))))) ((k + 1))))
theorem xw_blocksL2 {σ : Nat → Nat × (Nat → Int32)} {yy : (Nat → Nat → Int64) × Bool × Nat × Nat} {m : Nat → Nat → Int32} {b : Nat} {t : Nat} {d : Nat} (hd : 2 ≤ d + 1) (hb : BB b) (ht : t < 4) (hD : DT m b t) (h24 : mv m (b + 10 + 7 * t) 2 ≤ 24) : ∀ (n : Nat) (a : Int32) (k : Nat) (x5 : Option Value) (x6 : Option Value), k + n = mv m (b + 10 + 7 * t) 2 → zEv σ (d + 1) 625 5 [some (.ref b), some (.ref (b + 10 + 7 * t)), some (.int (Int32.ofNat 2)), some (.int a), some (.int (Int32.ofNat k)), x5, x6] [] (zS1, m, yy) (.inl (some (.int (xl_blocksL2 m b t n a k)))) (zS1, m, yy) := by
  intro n
  induction n with
  | zero =>
    intro a k x5 x6 hk
    refine zeP rfl rfl ?_
    refine zeP rfl rfl ?_
    refine zeGI rfl rfl (shS hb (by first | exact zq_adn (by decide) | exact zq_adr (zq_adn (by decide)) | omega)) rfl rfl ?_
    rw [hD.1.1]
    refine zeT2 rfl rfl (zcge (by first | exact zq_adn (by decide) | exact zq_adr (zq_adn (by decide)) | omega) (by first | exact zq_adn (by decide) | exact zq_adr (zq_adn (by decide)) | omega) (by first | exact zq_adn (by decide) | exact zq_adr (zq_adn (by decide)) | omega)) ?_
    refine zeP rfl rfl ?_
    exact zeRe rfl rfl rfl rfl (by rfl) (by rfl)
  | succ n ih =>
    intro a k x5 x6 hk
    refine zeP rfl rfl ?_
    refine zeP rfl rfl ?_
    refine zeGI rfl rfl (shS hb (by first | exact zq_adn (by decide) | exact zq_adr (zq_adn (by decide)) | omega)) rfl rfl ?_
    rw [hD.1.1]
    refine zeF2 rfl rfl (zcge_f (by first | exact zq_adn (by decide) | exact zq_adr (zq_adn (by decide)) | omega) (by first | exact zq_adn (by decide) | exact zq_adr (zq_adn (by decide)) | omega) (by first | exact zq_adn (by decide) | exact zq_adr (zq_adn (by decide)) | omega)) ?_
    refine zeP rfl rfl ?_
    refine zeP rfl rfl ?_
    refine zeCV rfl rfl rfl rfl (shS hb (by first | exact zq_adn (by decide) | exact zq_adr (zq_adn (by decide)) | omega)) rfl (xc_kindAt (m := m) (b := b) (t := t) (p := k) hb ht (by first | exact zq_adn (by decide) | exact zq_adr (zq_adn (by decide)) | omega)) (by first | exact zq_adn (by decide) | exact zq_adr (zq_adn (by decide)) | omega) ?_
    dsimp only [Option.toList, List.cons_append, List.nil_append]
    rw [(show x_kindAt m b t k = Int32.ofNat (mv m (b + 11 + 7 * t) k) from (hD.2.2.2.2 k (by first | exact zq_adn (by decide) | exact zq_adr (zq_adn (by decide)) | omega)).1.1)]
    refine zeP rfl rfl ?_
    refine zeB2 rfl rfl (fun h1 => ?_) (fun h1 => ?_)
    · refine zeInc rfl rfl ?_
      refine zeP rfl rfl ?_
      simp only [xl_blocksL2, h1, cond_true, cond_false]
      exact ih (a) ((k + 1)) (x5) (x6)   (by first | exact zq_adn (by decide) | exact zq_adr (zq_adn (by decide)) | omega) 
    · refine zeP rfl rfl ?_
      refine zeP rfl rfl ?_
      refine zeCV rfl rfl rfl rfl (shS hb (by first | exact zq_adn (by decide) | exact zq_adr (zq_adn (by decide)) | omega)) rfl (xc_numberAt (m := m) (b := b) (t := t) (p := k) hb ht (by first | exact zq_adn (by decide) | exact zq_adr (zq_adn (by decide)) | omega)) (by first | exact zq_adn (by decide) | exact zq_adr (zq_adn (by decide)) | omega) ?_
      dsimp only [Option.toList, List.cons_append, List.nil_append]
      rw [(show x_numberAt m b t k = Int32.ofNat (mv m (b + 12 + 7 * t) k) from (hD.2.2.2.2 k (by first | exact zq_adn (by decide) | exact zq_adr (zq_adn (by decide)) | omega)).2.1.1)]
      refine zeP rfl rfl ?_
      refine zeP rfl rfl ?_
      refine zeF1 rfl rfl (show zc1 .eq (Int32.ofNat 2) = false by decide) ?_
      refine zeP rfl rfl ?_
      refine zeKn (c := 1) rfl rfl rfl ?_
      refine zeT2 rfl rfl (show zc2 .ne (Int32.ofNat 2) (Int32.ofNat 1) = true by decide) ?_
      refine zeKn (c := 0) rfl rfl rfl ?_
      refine zeP rfl rfl ?_
      refine zeP rfl rfl ?_
      refine zeP rfl rfl ?_
      refine zeP rfl rfl ?_
      refine zeT1 rfl rfl (show zc1 .eq (Int32.ofNat 0) = true by decide) ?_
      refine zeP rfl rfl ?_
      refine zeCV rfl rfl rfl rfl (shM hb) rfl (xc_blockBit (m := m) (b := b) (w := (Int32.ofNat (mv m (b + 12 + 7 * t) k))) hb) (by first | exact zq_adn (by decide) | exact zq_adr (zq_adn (by decide)) | omega) ?_
      dsimp only [Option.toList, List.cons_append, List.nil_append]
      refine zeP rfl rfl ?_
      refine zeP rfl rfl ?_
      refine zeInc rfl rfl ?_
      refine zeP rfl rfl ?_
      simp only [xl_blocksL2, h1, cond_true, cond_false]
      exact ih ((a ||| (x_blockBit m b ((Int32.ofNat (mv m (b + 12 + 7 * t) k)))))) ((k + 1)) (some (.int (Int32.ofNat (mv m (b + 12 + 7 * t) k)))) (some (.int (Int32.ofNat 0)))   (by first | exact zq_adn (by decide) | exact zq_adr (zq_adn (by decide)) | omega) 
noncomputable def x_blocksOf2 (m : Nat → Nat → Int32) (b : Nat) (t : Nat) : Int32 := (xl_blocksL2 m b t ((mv m (b + 10 + 7 * t) 2)) ((Int32.ofNat 0)) 0)
theorem xp_blocksOf2 {σ : Nat → Nat × (Nat → Int32)} {yy : (Nat → Nat → Int64) × Bool × Nat × Nat} {m : Nat → Nat → Int32} {b : Nat} {t : Nat} {d : Nat} (hd : 2 ≤ d + 1) (hb : BB b) (ht : t < 4) (hD : DT m b t) : zEv σ (d + 1) 625 0 [some (.ref b), some (.ref (b + 10 + 7 * t)), some (.int (Int32.ofNat 2)), none, none, none, none] [] (zS1, m, yy) (.inl (some (.int (x_blocksOf2 m b t)))) (zS1, m, yy) := by
  refine zeKn (c := 0) rfl rfl rfl ?_
  refine zeP rfl rfl ?_
  refine zeKn (c := 0) rfl rfl rfl ?_
  refine zeP rfl rfl ?_
  simp only [x_blocksOf2, cond_true, cond_false]
  exact xw_blocksL2 (b := b) (t := t) (m := m) (by first | exact zq_adn (by decide) | exact zq_adr (zq_adn (by decide)) | omega) hb ht hD hD.1.2 ((mv m (b + 10 + 7 * t) 2)) ((Int32.ofNat 0)) (0) (none) (none)   (by first | exact zq_adn (by decide) | exact zq_adr (zq_adn (by decide)) | omega) 
theorem xc_blocksOf2 {σ : Nat → Nat × (Nat → Int32)} {yy : (Nat → Nat → Int64) × Bool × Nat × Nat} {m : Nat → Nat → Int32} {b : Nat} {t : Nat} (hb : BB b) (ht : t < 4) (hD : DT m b t) : zF σ 2 625 [.ref b, .ref (b + 10 + 7 * t), .int (Int32.ofNat 2)] (zS1, m, yy) (.inl (some (.int (x_blocksOf2 m b t)))) (zS1, m, yy) := by
  intro d hd
  obtain ⟨d, rfl⟩ : ∃ k, d = k + 1 := ⟨d - 1, by omega⟩
  exact xp_blocksOf2 hd hb ht hD
noncomputable def xl_blocksL3 (m : Nat → Nat → Int32) (b : Nat) (t : Nat) : Nat → Int32 → Nat → Int32
  | 0, a, k => a
  | n + 1, a, k => (bif zc2 .ne (Int32.ofNat (mv m (b + 11 + 7 * t) k)) (Int32.ofNat 3) then (xl_blocksL3 m b t n a ((k + 1))) else (xl_blocksL3 m b t n ((a ||| (x_blockBit m b ((Int32.ofNat (mv m (b + 12 + 7 * t) k)))))) ((k + 1))))
theorem xw_blocksL3 {σ : Nat → Nat × (Nat → Int32)} {yy : (Nat → Nat → Int64) × Bool × Nat × Nat} {m : Nat → Nat → Int32} {b : Nat} {t : Nat} {d : Nat} (hd : 2 ≤ d + 1) (hb : BB b) (ht : t < 4) (hD : DT m b t) (h24 : mv m (b + 10 + 7 * t) 2 ≤ 24) : ∀ (n : Nat) (a : Int32) (k : Nat) (x5 : Option Value) (x6 : Option Value), k + n = mv m (b + 10 + 7 * t) 2 → zEv σ (d + 1) 625 5 [some (.ref b), some (.ref (b + 10 + 7 * t)), some (.int (Int32.ofNat 3)), some (.int a), some (.int (Int32.ofNat k)), x5, x6] [] (zS1, m, yy) (.inl (some (.int (xl_blocksL3 m b t n a k)))) (zS1, m, yy) := by
  intro n
  induction n with
  | zero =>
    intro a k x5 x6 hk
    refine zeP rfl rfl ?_
    refine zeP rfl rfl ?_
    refine zeGI rfl rfl (shS hb (by first | exact zq_adn (by decide) | exact zq_adr (zq_adn (by decide)) | omega)) rfl rfl ?_
    rw [hD.1.1]
    refine zeT2 rfl rfl (zcge (by first | exact zq_adn (by decide) | exact zq_adr (zq_adn (by decide)) | omega) (by first | exact zq_adn (by decide) | exact zq_adr (zq_adn (by decide)) | omega) (by first | exact zq_adn (by decide) | exact zq_adr (zq_adn (by decide)) | omega)) ?_
    refine zeP rfl rfl ?_
    exact zeRe rfl rfl rfl rfl (by rfl) (by rfl)
  | succ n ih =>
    intro a k x5 x6 hk
    refine zeP rfl rfl ?_
    refine zeP rfl rfl ?_
    refine zeGI rfl rfl (shS hb (by first | exact zq_adn (by decide) | exact zq_adr (zq_adn (by decide)) | omega)) rfl rfl ?_
    rw [hD.1.1]
    refine zeF2 rfl rfl (zcge_f (by first | exact zq_adn (by decide) | exact zq_adr (zq_adn (by decide)) | omega) (by first | exact zq_adn (by decide) | exact zq_adr (zq_adn (by decide)) | omega) (by first | exact zq_adn (by decide) | exact zq_adr (zq_adn (by decide)) | omega)) ?_
    refine zeP rfl rfl ?_
    refine zeP rfl rfl ?_
    refine zeCV rfl rfl rfl rfl (shS hb (by first | exact zq_adn (by decide) | exact zq_adr (zq_adn (by decide)) | omega)) rfl (xc_kindAt (m := m) (b := b) (t := t) (p := k) hb ht (by first | exact zq_adn (by decide) | exact zq_adr (zq_adn (by decide)) | omega)) (by first | exact zq_adn (by decide) | exact zq_adr (zq_adn (by decide)) | omega) ?_
    dsimp only [Option.toList, List.cons_append, List.nil_append]
    rw [(show x_kindAt m b t k = Int32.ofNat (mv m (b + 11 + 7 * t) k) from (hD.2.2.2.2 k (by first | exact zq_adn (by decide) | exact zq_adr (zq_adn (by decide)) | omega)).1.1)]
    refine zeP rfl rfl ?_
    refine zeB2 rfl rfl (fun h1 => ?_) (fun h1 => ?_)
    · refine zeInc rfl rfl ?_
      refine zeP rfl rfl ?_
      simp only [xl_blocksL3, h1, cond_true, cond_false]
      exact ih (a) ((k + 1)) (x5) (x6)   (by first | exact zq_adn (by decide) | exact zq_adr (zq_adn (by decide)) | omega) 
    · refine zeP rfl rfl ?_
      refine zeP rfl rfl ?_
      refine zeCV rfl rfl rfl rfl (shS hb (by first | exact zq_adn (by decide) | exact zq_adr (zq_adn (by decide)) | omega)) rfl (xc_numberAt (m := m) (b := b) (t := t) (p := k) hb ht (by first | exact zq_adn (by decide) | exact zq_adr (zq_adn (by decide)) | omega)) (by first | exact zq_adn (by decide) | exact zq_adr (zq_adn (by decide)) | omega) ?_
      dsimp only [Option.toList, List.cons_append, List.nil_append]
      rw [(show x_numberAt m b t k = Int32.ofNat (mv m (b + 12 + 7 * t) k) from (hD.2.2.2.2 k (by first | exact zq_adn (by decide) | exact zq_adr (zq_adn (by decide)) | omega)).2.1.1)]
      refine zeP rfl rfl ?_
      refine zeP rfl rfl ?_
      refine zeF1 rfl rfl (show zc1 .eq (Int32.ofNat 3) = false by decide) ?_
      refine zeP rfl rfl ?_
      refine zeKn (c := 1) rfl rfl rfl ?_
      refine zeT2 rfl rfl (show zc2 .ne (Int32.ofNat 3) (Int32.ofNat 1) = true by decide) ?_
      refine zeKn (c := 0) rfl rfl rfl ?_
      refine zeP rfl rfl ?_
      refine zeP rfl rfl ?_
      refine zeP rfl rfl ?_
      refine zeP rfl rfl ?_
      refine zeT1 rfl rfl (show zc1 .eq (Int32.ofNat 0) = true by decide) ?_
      refine zeP rfl rfl ?_
      refine zeCV rfl rfl rfl rfl (shM hb) rfl (xc_blockBit (m := m) (b := b) (w := (Int32.ofNat (mv m (b + 12 + 7 * t) k))) hb) (by first | exact zq_adn (by decide) | exact zq_adr (zq_adn (by decide)) | omega) ?_
      dsimp only [Option.toList, List.cons_append, List.nil_append]
      refine zeP rfl rfl ?_
      refine zeP rfl rfl ?_
      refine zeInc rfl rfl ?_
      refine zeP rfl rfl ?_
      simp only [xl_blocksL3, h1, cond_true, cond_false]
      exact ih ((a ||| (x_blockBit m b ((Int32.ofNat (mv m (b + 12 + 7 * t) k)))))) ((k + 1)) (some (.int (Int32.ofNat (mv m (b + 12 + 7 * t) k)))) (some (.int (Int32.ofNat 0)))   (by first | exact zq_adn (by decide) | exact zq_adr (zq_adn (by decide)) | omega) 
noncomputable def x_blocksOf3 (m : Nat → Nat → Int32) (b : Nat) (t : Nat) : Int32 := (xl_blocksL3 m b t ((mv m (b + 10 + 7 * t) 2)) ((Int32.ofNat 0)) 0)
theorem xp_blocksOf3 {σ : Nat → Nat × (Nat → Int32)} {yy : (Nat → Nat → Int64) × Bool × Nat × Nat} {m : Nat → Nat → Int32} {b : Nat} {t : Nat} {d : Nat} (hd : 2 ≤ d + 1) (hb : BB b) (ht : t < 4) (hD : DT m b t) : zEv σ (d + 1) 625 0 [some (.ref b), some (.ref (b + 10 + 7 * t)), some (.int (Int32.ofNat 3)), none, none, none, none] [] (zS1, m, yy) (.inl (some (.int (x_blocksOf3 m b t)))) (zS1, m, yy) := by
  refine zeKn (c := 0) rfl rfl rfl ?_
  refine zeP rfl rfl ?_
  refine zeKn (c := 0) rfl rfl rfl ?_
  refine zeP rfl rfl ?_
  simp only [x_blocksOf3, cond_true, cond_false]
  exact xw_blocksL3 (b := b) (t := t) (m := m) (by first | exact zq_adn (by decide) | exact zq_adr (zq_adn (by decide)) | omega) hb ht hD hD.1.2 ((mv m (b + 10 + 7 * t) 2)) ((Int32.ofNat 0)) (0) (none) (none)   (by first | exact zq_adn (by decide) | exact zq_adr (zq_adn (by decide)) | omega) 
theorem xc_blocksOf3 {σ : Nat → Nat × (Nat → Int32)} {yy : (Nat → Nat → Int64) × Bool × Nat × Nat} {m : Nat → Nat → Int32} {b : Nat} {t : Nat} (hb : BB b) (ht : t < 4) (hD : DT m b t) : zF σ 2 625 [.ref b, .ref (b + 10 + 7 * t), .int (Int32.ofNat 3)] (zS1, m, yy) (.inl (some (.int (x_blocksOf3 m b t)))) (zS1, m, yy) := by
  intro d hd
  obtain ⟨d, rfl⟩ : ∃ k, d = k + 1 := ⟨d - 1, by omega⟩
  exact xp_blocksOf3 hd hb ht hD
noncomputable def x_reachXC (m : Nat → Nat → Int32) (b : Nat) (w : Nat) (v : Int32) (x : Int32) (r : Int32) (o : Int32) : Int32 × (Nat → Nat → Int32) := (bif zc1 .eq r then ((Int32.ofNat 1), m) else ((Int32.ofNat 1), (zm2 m ((b + 1)) w v)))
theorem xp_reachXC {σ : Nat → Nat × (Nat → Int32)} {yy : (Nat → Nat → Int64) × Bool × Nat × Nat} {m : Nat → Nat → Int32} {b : Nat} {w : Nat} {v : Int32} {x : Int32} {r : Int32} {o : Int32} {x8 : Option Value} {d : Nat} (hd : 1 ≤ d + 1) (hb : BB b) (hw : w < 32) : zEv σ (d + 1) 620 149 [some (.ref b), some (.int (-1)), some (.int (Int32.ofNat w)), some (.int v), some (.int x), some (.int r), some (.int (Int32.ofNat 0)), some (.int o), x8] [] (zS1, m, yy) (.inl (some (.int (x_reachXC m b w v x r o).1))) (zS1, ((x_reachXC m b w v x r o).2), yy) := by
  refine zeP rfl rfl ?_
  refine zeT1 rfl rfl (show zc1 .eq (Int32.ofNat 0) = true by decide) ?_
  refine zeP rfl rfl ?_
  refine zeT1 rfl rfl (show zc1 .eq (Int32.ofNat 0) = true by decide) ?_
  refine zeP rfl rfl ?_
  refine zeB1 rfl rfl (fun h1 => ?_) (fun h1 => ?_)
  · refine zeKn (c := 1) rfl rfl rfl ?_
    exact zeRe rfl rfl rfl rfl (by simp only [x_reachXC, h1, cond_true, cond_false] <;> rfl) (by simp only [x_reachXC, h1, cond_true, cond_false] <;> rfl)
  · refine zeP rfl rfl ?_
    refine zeGR rfl rfl (shM hb) rfl rfl ?_
    refine zeP rfl rfl ?_
    refine zeKn (c := 31) rfl rfl rfl ?_
    refine zeON (c := w) rfl rfl (zand31 _ hw) ?_
    refine zeP rfl rfl ?_
    refine zeAS (k := w) rfl (shW hb) rfl (by first | exact zq_adn (by decide) | exact zq_adr (zq_adn (by decide)) | omega) ?_
    refine zeKn (c := 1) rfl rfl rfl ?_
    exact zeRe rfl rfl rfl rfl (by simp only [x_reachXC, h1, cond_true, cond_false] <;> rfl) (by simp only [x_reachXC, h1, cond_true, cond_false] <;> rfl)
noncomputable def xl_reachXL (b : Nat) (w : Nat) (v : Int32) (x : Int32) (r : Int32) (o : Int32) (n5 : Nat) : Nat → Nat → (Nat → Nat → Int32) → Int32 × (Nat → Nat → Int32)
  | 0, k, m => (x_reachXC m b w v x r o)
  | n + 1, k, m => (bif zc1 .eq ((o.toUInt32 >>> (((Int32.ofNat k)).toUInt32 &&& Int32.toUInt32 31)).toInt32 &&& (Int32.ofNat 1)) then (xl_reachXL b w v x r o n5 n ((k + 1)) m) else (xl_reachXL b w v x r o n5 n ((k + 1)) ((x_fall m b k 0).2)))
theorem xw_reachXL {σ : Nat → Nat × (Nat → Int32)} {yy : (Nat → Nat → Int64) × Bool × Nat × Nat} {b : Nat} {w : Nat} {v : Int32} {x : Int32} {r : Int32} {o : Int32} {n5 : Nat} {d : Nat} (hd : 3 ≤ d + 1) (hb : BB b) (hw : w < 32) (hn4 : n5 ≤ 4) : ∀ (n : Nat) (k : Nat) (m : Nat → Nat → Int32), k + n = n5 → CG m b → m b 5 = Int32.ofNat n5 → zEv σ (d + 1) 620 116 [some (.ref b), some (.int (-1)), some (.int (Int32.ofNat w)), some (.int v), some (.int x), some (.int r), some (.int (Int32.ofNat 0)), some (.int o), some (.int (Int32.ofNat k))] [] (zS1, m, yy) (.inl (some (.int (xl_reachXL b w v x r o n5 n k m).1))) (zS1, ((xl_reachXL b w v x r o n5 n k m).2), yy) := by
  intro n
  induction n with
  | zero =>
    intro k m hk hc h5
    refine zeP rfl rfl ?_
    refine zeP rfl rfl ?_
    refine zeGI rfl rfl (shM hb) rfl rfl ?_
    rw [h5]
    refine zeT2 rfl rfl (zcge (by first | exact zq_adn (by decide) | exact zq_adr (zq_adn (by decide)) | omega) (by first | exact zq_adn (by decide) | exact zq_adr (zq_adn (by decide)) | omega) (by first | exact zq_adn (by decide) | exact zq_adr (zq_adn (by decide)) | omega)) ?_
    simp only [xl_reachXL, cond_true, cond_false]
    exact xp_reachXC (b := b) (w := w) (v := v) (x := x) (r := r) (o := o) (x8 := some (.int (Int32.ofNat k))) (m := m) (by first | exact zq_adn (by decide) | exact zq_adr (zq_adn (by decide)) | omega) hb hw
  | succ n ih =>
    intro k m hk hc h5
    refine zeP rfl rfl ?_
    refine zeP rfl rfl ?_
    refine zeGI rfl rfl (shM hb) rfl rfl ?_
    rw [h5]
    refine zeF2 rfl rfl (zcge_f (by first | exact zq_adn (by decide) | exact zq_adr (zq_adn (by decide)) | omega) (by first | exact zq_adn (by decide) | exact zq_adr (zq_adn (by decide)) | omega) (by first | exact zq_adn (by decide) | exact zq_adr (zq_adn (by decide)) | omega)) ?_
    refine zeP rfl rfl ?_
    refine zeP rfl rfl ?_
    refine zeP rfl rfl ?_
    refine zeKn (c := 1) rfl rfl rfl ?_
    refine zeP rfl rfl ?_
    refine zeB1 rfl rfl (fun h1 => ?_) (fun h1 => ?_)
    · refine zeInc rfl rfl ?_
      refine zeP rfl rfl ?_
      simp only [xl_reachXL, h1, cond_true, cond_false]
      exact ih ((k + 1))  m (by first | exact zq_adn (by decide) | exact zq_adr (zq_adn (by decide)) | omega) (by first | exact hc | exact hc.fall (by first | exact zq_adn (by decide) | exact zq_adr (zq_adn (by decide)) | omega) (by first | exact zq_adn (by decide) | exact zq_adr (zq_adn (by decide)) | omega)) (by first | exact h5 | (rw [fall_c5 hc (by first | exact zq_adn (by decide) | exact zq_adr (zq_adn (by decide)) | omega) (by first | exact zq_adn (by decide) | exact zq_adr (zq_adn (by decide)) | omega)]; exact h5))
    · refine zeP rfl rfl ?_
      refine zeP rfl rfl ?_
      refine zeKn (c := 0) rfl rfl rfl ?_
      refine zeCV rfl rfl rfl rfl (shM hb) rfl (xc_fall (m := m) (b := b) (t := k) (y := 0) hb (by first | exact zq_adn (by decide) | exact zq_adr (zq_adn (by decide)) | omega) (by first | exact zq_adn (by decide) | exact zq_adr (zq_adn (by decide)) | omega) (hc.l (by first | exact zq_adn (by decide) | exact zq_adr (zq_adn (by decide)) | omega)) (hc.l4 (by first | exact zq_adn (by decide) | exact zq_adr (zq_adn (by decide)) | omega)) hc.n hc.n60) (by first | exact zq_adn (by decide) | exact zq_adr (zq_adn (by decide)) | omega) ?_
      dsimp only [Option.toList, List.cons_append, List.nil_append]
      refine zeP rfl rfl ?_
      refine zeInc rfl rfl ?_
      refine zeP rfl rfl ?_
      simp only [xl_reachXL, h1, cond_true, cond_false]
      exact ih ((k + 1))  ((x_fall m b k 0).2) (by first | exact zq_adn (by decide) | exact zq_adr (zq_adn (by decide)) | omega) (by first | exact hc | exact hc.fall (by first | exact zq_adn (by decide) | exact zq_adr (zq_adn (by decide)) | omega) (by first | exact zq_adn (by decide) | exact zq_adr (zq_adn (by decide)) | omega)) (by first | exact h5 | (rw [fall_c5 hc (by first | exact zq_adn (by decide) | exact zq_adr (zq_adn (by decide)) | omega) (by first | exact zq_adn (by decide) | exact zq_adr (zq_adn (by decide)) | omega)]; exact h5))
noncomputable def x_reachX (m : Nat → Nat → Int32) (b : Nat) (w : Nat) (v : Int32) : Int32 × (Nat → Nat → Int32) := (bif zc2 .eq v (-1) then (xl_reachXL b w v ((x_blockBit m b ((Int32.ofNat w)))) ((Int32.ofNat 0)) ((x_holders m b ((x_blockBit m b ((Int32.ofNat w)))) ((-1)) ((Int32.ofNat 0)))) ((mv m b 5)) ((mv m b 5)) 0 m) else (xl_reachXL b w v ((x_blockBit m b ((Int32.ofNat w)))) ((Int32.ofNat 1)) ((x_holders m b ((x_blockBit m b ((Int32.ofNat w)))) ((-1)) ((Int32.ofNat 1)))) ((mv m b 5)) ((mv m b 5)) 0 m))
theorem xp_reachX {σ : Nat → Nat × (Nat → Int32)} {yy : (Nat → Nat → Int64) × Bool × Nat × Nat} {m : Nat → Nat → Int32} {b : Nat} {w : Nat} {v : Int32} {d : Nat} (hd : 3 ≤ d + 1) (hb : BB b) (hc : CG m b) (hw : w < 32) : zEv σ (d + 1) 620 0 [some (.ref b), some (.int (-1)), some (.int (Int32.ofNat w)), some (.int v), none, none, none, none, none] [] (zS1, m, yy) (.inl (some (.int (x_reachX m b w v).1))) (zS1, ((x_reachX m b w v).2), yy) := by
  refine zeP rfl rfl ?_
  refine zeP rfl rfl ?_
  refine zeCV rfl rfl rfl rfl (shM hb) rfl (xc_blockBit (m := m) (b := b) (w := (Int32.ofNat w)) hb) (by first | exact zq_adn (by decide) | exact zq_adr (zq_adn (by decide)) | omega) ?_
  dsimp only [Option.toList, List.cons_append, List.nil_append]
  refine zeP rfl rfl ?_
  refine zeP rfl rfl ?_
  refine zeK (v := -1) rfl rfl rfl ?_
  refine zeB2 rfl rfl (fun h1 => ?_) (fun h1 => ?_)
  · refine zeKn (c := 0) rfl rfl rfl ?_
    refine zeP rfl rfl ?_
    refine zeP rfl rfl ?_
    refine zeP rfl rfl ?_
    refine zeCV rfl rfl rfl rfl (shM hb) rfl (xc_isGuessingX (m := m) (b := b) hb) (by first | exact zq_adn (by decide) | exact zq_adr (zq_adn (by decide)) | omega) ?_
    dsimp only [Option.toList, List.cons_append, List.nil_append]
    refine zeP rfl rfl ?_
    refine zeP rfl rfl ?_
    refine zeT1 rfl rfl (show zc1 .eq (Int32.ofNat 0) = true by decide) ?_
    refine zeP rfl rfl ?_
    refine zeP rfl rfl ?_
    refine zeP rfl rfl ?_
    refine zeP rfl rfl ?_
    refine zeCV rfl rfl rfl rfl (shM hb) rfl (xc_holders (m := m) (b := b) (x := (x_blockBit m b ((Int32.ofNat w)))) (u := (-1)) (w := (Int32.ofNat 0)) hb hc) (by first | exact zq_adn (by decide) | exact zq_adr (zq_adn (by decide)) | omega) ?_
    dsimp only [Option.toList, List.cons_append, List.nil_append]
    refine zeP rfl rfl ?_
    refine zeP rfl rfl ?_
    refine zeT1 rfl rfl (show zc1 .eq (Int32.ofNat 0) = true by decide) ?_
    refine zeKn (c := 0) rfl rfl rfl ?_
    refine zeP rfl rfl ?_
    simp only [x_reachX, h1, cond_true, cond_false]
    exact xw_reachXL (b := b) (w := w) (v := v) (x := (x_blockBit m b ((Int32.ofNat w)))) (r := (Int32.ofNat 0)) (o := (x_holders m b ((x_blockBit m b ((Int32.ofNat w)))) ((-1)) ((Int32.ofNat 0)))) (n5 := (mv m b 5)) (by first | exact zq_adn (by decide) | exact zq_adr (zq_adn (by decide)) | omega) hb hw hc.c4 ((mv m b 5)) (0)  m (by first | exact zq_adn (by decide) | exact zq_adr (zq_adn (by decide)) | omega) hc hc.c
  · refine zeKn (c := 1) rfl rfl rfl ?_
    refine zeP rfl rfl ?_
    refine zeP rfl rfl ?_
    refine zeP rfl rfl ?_
    refine zeP rfl rfl ?_
    refine zeCV rfl rfl rfl rfl (shM hb) rfl (xc_isGuessingX (m := m) (b := b) hb) (by first | exact zq_adn (by decide) | exact zq_adr (zq_adn (by decide)) | omega) ?_
    dsimp only [Option.toList, List.cons_append, List.nil_append]
    refine zeP rfl rfl ?_
    refine zeP rfl rfl ?_
    refine zeT1 rfl rfl (show zc1 .eq (Int32.ofNat 0) = true by decide) ?_
    refine zeP rfl rfl ?_
    refine zeP rfl rfl ?_
    refine zeP rfl rfl ?_
    refine zeP rfl rfl ?_
    refine zeCV rfl rfl rfl rfl (shM hb) rfl (xc_holders (m := m) (b := b) (x := (x_blockBit m b ((Int32.ofNat w)))) (u := (-1)) (w := (Int32.ofNat 1)) hb hc) (by first | exact zq_adn (by decide) | exact zq_adr (zq_adn (by decide)) | omega) ?_
    dsimp only [Option.toList, List.cons_append, List.nil_append]
    refine zeP rfl rfl ?_
    refine zeP rfl rfl ?_
    refine zeT1 rfl rfl (show zc1 .eq (Int32.ofNat 0) = true by decide) ?_
    refine zeKn (c := 0) rfl rfl rfl ?_
    refine zeP rfl rfl ?_
    simp only [x_reachX, h1, cond_true, cond_false]
    exact xw_reachXL (b := b) (w := w) (v := v) (x := (x_blockBit m b ((Int32.ofNat w)))) (r := (Int32.ofNat 1)) (o := (x_holders m b ((x_blockBit m b ((Int32.ofNat w)))) ((-1)) ((Int32.ofNat 1)))) (n5 := (mv m b 5)) (by first | exact zq_adn (by decide) | exact zq_adr (zq_adn (by decide)) | omega) hb hw hc.c4 ((mv m b 5)) (0)  m (by first | exact zq_adn (by decide) | exact zq_adr (zq_adn (by decide)) | omega) hc hc.c
theorem xc_reachX {σ : Nat → Nat × (Nat → Int32)} {yy : (Nat → Nat → Int64) × Bool × Nat × Nat} {m : Nat → Nat → Int32} {b : Nat} {w : Nat} {v : Int32} (hb : BB b) (hc : CG m b) (hw : w < 32) : zF σ 3 620 [.ref b, .int (-1), .int (Int32.ofNat w), .int v] (zS1, m, yy) (.inl (some (.int (x_reachX m b w v).1))) (zS1, ((x_reachX m b w v).2), yy) := by
  intro d hd
  obtain ⟨d, rfl⟩ : ∃ k, d = k + 1 := ⟨d - 1, by omega⟩
  exact xp_reachX hd hb hc hw
