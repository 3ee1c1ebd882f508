def x_isGuessingX (b : Nat) : Int32 := (Int32.ofNat 0)
theorem xp_isGuessingX {σ : Nat → Nat × (Nat → Int32)} {yy : (Nat → Nat → Int64) × Bool × Nat × Nat} {m : Nat → Nat → Int32} {b : Nat} {d : Nat} (hd : 1 ≤ d + 1) (hb : BB b) : zEv σ (d + 1) 606 0 [some (.ref b), some (.int (-1))] [] (zS1, m, yy) (.inl (some (.int (x_isGuessingX b)))) (zS1, m, yy) := by
  refine zeP rfl rfl ?_
  refine zeK (v := -1) rfl rfl rfl ?_
  refine zeT2 rfl rfl (by decide) ?_
  refine zeKn (c := 0) rfl rfl rfl ?_
  exact zeRe rfl rfl rfl rfl (by rfl) (by rfl)
theorem xc_isGuessingX {σ : Nat → Nat × (Nat → Int32)} {yy : (Nat → Nat → Int64) × Bool × Nat × Nat} {m : Nat → Nat → Int32} {b : Nat} (hb : BB b) : zF σ 1 606 [.ref b, .int (-1)] (zS1, m, yy) (.inl (some (.int (x_isGuessingX b)))) (zS1, m, yy) := by
  intro d hd
  obtain ⟨d, rfl⟩ : ∃ k, d = k + 1 := ⟨d - 1, by omega⟩
  exact xp_isGuessingX hd hb
def x_reachC (m : Nat → Nat → Int32) (b : Nat) (t : Nat) (w : Nat) (v : Int32) (x : Int32) (r : Int32) (g : Int32) (o : Int32) : Int32 × (Nat → Nat → Int32) := (bif zc1 .eq g then (bif zc1 .eq r then ((Int32.ofNat 1), m) else ((Int32.ofNat 1), (zm2 m ((b + 1)) w v))) else (bif zc1 .eq r then ((Int32.ofNat 1), (zm2 m ((b + 14 + 7 * t)) 6 ((m ((b + 14 + 7 * t)) 6) ||| x))) else ((Int32.ofNat 1), (x_gwrite m b t w v x))))
theorem xp_reachC {σ : Nat → Nat × (Nat → Int32)} {yy : (Nat → Nat → Int64) × Bool × Nat × Nat} {m : Nat → Nat → Int32} {b : Nat} {t : Nat} {w : Nat} {v : Int32} {x : Int32} {r : Int32} {g : Int32} {o : Int32} {x8 : Option Value} {d : Nat} (hd : 2 ≤ d + 1) (hb : BB b) (ht : t < 4) (hw : w < 32) : zEv σ (d + 1) 620 149 [some (.ref b), some (.int (Int32.ofNat t)), some (.int (Int32.ofNat w)), some (.int v), some (.int x), some (.int r), some (.int g), some (.int o), x8] [] (zS1, m, yy) (.inl (some (.int (x_reachC m b t w v x r g o).1))) (zS1, ((x_reachC m b t w v x r g o).2), yy) := by
  refine zeP rfl rfl ?_
  refine zeB1 rfl rfl (fun h1 => ?_) (fun h1 => ?_)
  · refine zeP rfl rfl ?_
    refine zeT1 rfl rfl h1 ?_
    refine zeP rfl rfl ?_
    refine zeB1 rfl rfl (fun h2 => ?_) (fun h2 => ?_)
    · refine zeKn (c := 1) rfl rfl rfl ?_
      exact zeRe rfl rfl rfl rfl (by simp only [x_reachC, h1, h2, cond_true, cond_false] <;> rfl) (by simp only [x_reachC, h1, h2, cond_true, cond_false] <;> rfl)
    · refine zeP rfl rfl ?_
      refine zeGR rfl rfl (shM hb) rfl rfl ?_
      refine zeP rfl rfl ?_
      refine zeKn (c := 31) rfl rfl rfl ?_
      refine zeON (c := w) rfl rfl (zand31 _ hw) ?_
      refine zeP rfl rfl ?_
      refine zeAS (k := w) rfl (shW hb) rfl (by omega) ?_
      refine zeKn (c := 1) rfl rfl rfl ?_
      exact zeRe rfl rfl rfl rfl (by simp only [x_reachC, h1, h2, cond_true, cond_false] <;> rfl) (by simp only [x_reachC, h1, h2, cond_true, cond_false] <;> rfl)
  · refine zeP rfl rfl ?_
    refine zeB1 rfl rfl (fun h3 => ?_) (fun h3 => ?_)
    · refine zeP rfl rfl ?_
      refine zeF1 rfl rfl h1 ?_
      refine zeP rfl rfl ?_
      refine zeP rfl rfl ?_
      refine zeCV rfl rfl rfl rfl (shM hb) rfl (xc_strandAt (m := m) (b := b) (t := t) hb ht) (by omega) ?_
      dsimp only [Option.toList, List.cons_append, List.nil_append]
      refine zeGR rfl rfl (shS hb (by omega)) rfl rfl ?_
      refine zeP rfl rfl ?_
      refine zeGI rfl rfl (shG hb (by omega)) rfl rfl ?_
      refine zeP rfl rfl ?_
      refine zeP rfl rfl ?_
      refine zePI rfl rfl (shG hb (by omega)) rfl ?_
      refine zeP rfl rfl ?_
      refine zeKn (c := 1) rfl rfl rfl ?_
      exact zeRe rfl rfl rfl rfl (by simp only [x_reachC, h1, h3, cond_true, cond_false] <;> rfl) (by simp only [x_reachC, h1, h3, cond_true, cond_false] <;> rfl)
    · refine zeP rfl rfl ?_
      refine zeP rfl rfl ?_
      refine zeCV rfl rfl rfl rfl (shM hb) rfl (xc_strandAt (m := m) (b := b) (t := t) hb ht) (by omega) ?_
      dsimp only [Option.toList, List.cons_append, List.nil_append]
      refine zeGR rfl rfl (shS hb (by omega)) rfl rfl ?_
      refine zeP rfl rfl ?_
      refine zeP rfl rfl ?_
      refine zeP rfl rfl ?_
      refine zeCV rfl rfl rfl rfl (shG hb (by omega)) rfl (xc_gwrite (m := m) (b := b) (t := t) (w := w) (v := v) (x := x) hb ht hw) (by omega) ?_
      dsimp only [Option.toList, List.cons_append, List.nil_append]
      refine zeP rfl rfl ?_
      refine zeKn (c := 1) rfl rfl rfl ?_
      exact zeRe rfl rfl rfl rfl (by simp only [x_reachC, h1, h3, cond_true, cond_false] <;> rfl) (by simp only [x_reachC, h1, h3, cond_true, cond_false] <;> rfl)
theorem fall_c5 {m : Nat → Nat → Int32} {b t y : Nat} (h : CG m b) (ht : t < 4) (hy : y < 5) : (x_fall m b t y).2 b 5 = m b 5 := by
  have hl := h.l4 ht
  unfold x_fall
  dsimp only
  rw [logAdd_ne (by omega) (by omega), close_ne (by omega), lose_ne (by omega)]
  simp (disch := omega) only [zx_ne]
def xl_reachL (b : Nat) (t : Nat) (w : Nat) (v : Int32) (x : Int32) (r : Int32) (g : Int32) (o : Int32) (n5 : Nat) : Nat → Nat → (Nat → Nat → Int32) → Int32 × (Nat → Nat → Int32)
  | 0, k, m => (x_reachC m b t w v x r g o)
  | n + 1, k, m => (bif zc1 .eq ((o.toUInt32 >>> (((Int32.ofNat k)).toUInt32 &&& Int32.toUInt32 31)).toInt32 &&& (Int32.ofNat 1)) then (xl_reachL b t w v x r g o n5 n ((k + 1)) m) else (xl_reachL b t w v x r g o n5 n ((k + 1)) ((x_fall m b k 0).2)))
theorem xw_reachL {σ : Nat → Nat × (Nat → Int32)} {yy : (Nat → Nat → Int64) × Bool × Nat × Nat} {b : Nat} {t : Nat} {w : Nat} {v : Int32} {x : Int32} {r : Int32} {g : Int32} {o : Int32} {n5 : Nat} {d : Nat} (hd : 3 ≤ d + 1) (hb : BB b) (ht : t < 4) (hw : w < 32) (hn4 : n5 ≤ 4) : ∀ (n : Nat) (k : Nat) (m : Nat → Nat → Int32), k + n = n5 → CG m b → m b 5 = Int32.ofNat n5 → zEv σ (d + 1) 620 116 [some (.ref b), some (.int (Int32.ofNat t)), some (.int (Int32.ofNat w)), some (.int v), some (.int x), some (.int r), some (.int g), some (.int o), some (.int (Int32.ofNat k))] [] (zS1, m, yy) (.inl (some (.int (xl_reachL b t w v x r g o n5 n k m).1))) (zS1, ((xl_reachL b t w v x r g o n5 n k m).2), yy) := by
  intro n
  induction n with
  | zero =>
    intro k m hk hc h5
    refine zeP rfl rfl ?_
    refine zeP rfl rfl ?_
    refine zeGI rfl rfl (shM hb) rfl rfl ?_
    rw [h5]
    refine zeT2 rfl rfl (zcge (by omega) (by omega) (by omega)) ?_
    simp only [xl_reachL, cond_true, cond_false]
    exact xp_reachC (b := b) (t := t) (w := w) (v := v) (x := x) (r := r) (g := g) (o := o) (x8 := some (.int (Int32.ofNat k))) (m := m) (by omega) hb ht hw
  | succ n ih =>
    intro k m hk hc h5
    refine zeP rfl rfl ?_
    refine zeP rfl rfl ?_
    refine zeGI rfl rfl (shM hb) rfl rfl ?_
    rw [h5]
    refine zeF2 rfl rfl (zcge_f (by omega) (by omega) (by omega)) ?_
    refine zeP rfl rfl ?_
    refine zeP rfl rfl ?_
    refine zeP rfl rfl ?_
    refine zeKn (c := 1) rfl rfl rfl ?_
    refine zeP rfl rfl ?_
    refine zeB1 rfl rfl (fun h1 => ?_) (fun h1 => ?_)
    · refine zeInc rfl rfl ?_
      refine zeP rfl rfl ?_
      simp only [xl_reachL, h1, cond_true, cond_false]
      exact ih ((k + 1))  m (by omega) (by first | exact hc | exact hc.fall (by omega) (by omega)) (by first | exact h5 | (rw [fall_c5 hc (by omega) (by omega)]; exact h5))
    · refine zeP rfl rfl ?_
      refine zeP rfl rfl ?_
      refine zeKn (c := 0) rfl rfl rfl ?_
      refine zeCV rfl rfl rfl rfl (shM hb) rfl (xc_fall (m := m) (b := b) (t := k) (y := 0) hb (by omega) (by omega) (hc.l (by omega)) (hc.l4 (by omega)) hc.n hc.n60) (by omega) ?_
      dsimp only [Option.toList, List.cons_append, List.nil_append]
      refine zeP rfl rfl ?_
      refine zeInc rfl rfl ?_
      refine zeP rfl rfl ?_
      simp only [xl_reachL, h1, cond_true, cond_false]
      exact ih ((k + 1))  ((x_fall m b k 0).2) (by omega) (by first | exact hc | exact hc.fall (by omega) (by omega)) (by first | exact h5 | (rw [fall_c5 hc (by omega) (by omega)]; exact h5))
def x_reachB (m : Nat → Nat → Int32) (b : Nat) (t : Nat) (w : Nat) (v : Int32) (x : Int32) (r : Int32) (g : Int32) : Int32 × (Nat → Nat → Int32) := (bif zc1 .eq g then (xl_reachL b t w v x r g ((x_holders m b x ((Int32.ofNat t)) r)) ((mv m b 5)) ((mv m b 5)) 0 m) else (bif zc1 .eq (m ((b + 3)) 8) then (xl_reachL b t w v x r g ((x_holders m b x ((Int32.ofNat t)) r)) ((mv m b 5)) ((mv m b 5)) 0 m) else (bif zc1 .eq (x_anyBefore m b ((x_holders m b x ((Int32.ofNat t)) r)) ((m ((b + 14 + 7 * t)) 3))) then (xl_reachL b t w v x r g ((x_holders m b x ((Int32.ofNat t)) r)) ((mv m b 5)) ((mv m b 5)) 0 m) else ((x_fall m b t 0).1, (x_fall m b t 0).2))))
theorem xp_reachB {σ : Nat → Nat × (Nat → Int32)} {yy : (Nat → Nat → Int64) × Bool × Nat × Nat} {m : Nat → Nat → Int32} {b : Nat} {t : Nat} {w : Nat} {v : Int32} {x : Int32} {r : Int32} {g : Int32} {d : Nat} (hd : 3 ≤ d + 1) (hb : BB b) (hc : CG m b) (ht : t < 4) (hw : w < 32) : zEv σ (d + 1) 620 60 [some (.ref b), some (.int (Int32.ofNat t)), some (.int (Int32.ofNat w)), some (.int v), some (.int x), some (.int r), some (.int g), none, none] [] (zS1, m, yy) (.inl (some (.int (x_reachB m b t w v x r g).1))) (zS1, ((x_reachB m b t w v x r g).2), yy) := by
  refine zeP rfl rfl ?_
  refine zeP rfl rfl ?_
  refine zeP rfl rfl ?_
  refine zeP rfl rfl ?_
  refine zeCV rfl rfl rfl rfl (shM hb) rfl (xc_holders (m := m) (b := b) (x := x) (u := (Int32.ofNat t)) (w := r) hb hc) (by omega) ?_
  dsimp only [Option.toList, List.cons_append, List.nil_append]
  refine zeP rfl rfl ?_
  refine zeP rfl rfl ?_
  refine zeB1 rfl rfl (fun h1 => ?_) (fun h1 => ?_)
  · refine zeKn (c := 0) rfl rfl rfl ?_
    refine zeP rfl rfl ?_
    simp only [x_reachB, h1, cond_true, cond_false]
    exact xw_reachL (b := b) (t := t) (w := w) (v := v) (x := x) (r := r) (g := g) (o := (x_holders m b x ((Int32.ofNat t)) r)) (n5 := (mv m b 5)) (by omega) hb ht hw hc.c4 ((mv m b 5)) (0)  m (by omega) hc hc.c
  · refine zeP rfl rfl ?_
    refine zeGR rfl rfl (shM hb) rfl rfl ?_
    refine zeKn (c := 8) rfl rfl rfl ?_
    refine zeAL (k := 8) rfl (bb1000 hb (by omega)) (shE hb) rfl (by omega) ?_
    refine zeB1 rfl rfl (fun h2 => ?_) (fun h2 => ?_)
    · refine zeKn (c := 0) rfl rfl rfl ?_
      refine zeP rfl rfl ?_
      simp only [x_reachB, h1, h2, cond_true, cond_false]
      exact xw_reachL (b := b) (t := t) (w := w) (v := v) (x := x) (r := r) (g := g) (o := (x_holders m b x ((Int32.ofNat t)) r)) (n5 := (mv m b 5)) (by omega) hb ht hw hc.c4 ((mv m b 5)) (0)  m (by omega) hc hc.c
    · refine zeP rfl rfl ?_
      refine zeP rfl rfl ?_
      refine zeP rfl rfl ?_
      refine zeP rfl rfl ?_
      refine zeCV rfl rfl rfl rfl (shM hb) rfl (xc_strandAt (m := m) (b := b) (t := t) hb ht) (by omega) ?_
      dsimp only [Option.toList, List.cons_append, List.nil_append]
      refine zeGR rfl rfl (shS hb (by omega)) rfl rfl ?_
      refine zeGI rfl rfl (shG hb (by omega)) rfl rfl ?_
      refine zeCV rfl rfl rfl rfl (shM hb) rfl (xc_anyBefore (m := m) (b := b) (x := (x_holders m b x ((Int32.ofNat t)) r)) (y := (m ((b + 14 + 7 * t)) 3)) hb hc) (by omega) ?_
      dsimp only [Option.toList, List.cons_append, List.nil_append]
      refine zeB1 rfl rfl (fun h3 => ?_) (fun h3 => ?_)
      · refine zeKn (c := 0) rfl rfl rfl ?_
        refine zeP rfl rfl ?_
        simp only [x_reachB, h1, h2, h3, cond_true, cond_false]
        exact xw_reachL (b := b) (t := t) (w := w) (v := v) (x := x) (r := r) (g := g) (o := (x_holders m b x ((Int32.ofNat t)) r)) (n5 := (mv m b 5)) (by omega) hb ht hw hc.c4 ((mv m b 5)) (0)  m (by omega) hc hc.c
      · refine zeP rfl rfl ?_
        refine zeP rfl rfl ?_
        refine zeKn (c := 0) rfl rfl rfl ?_
        refine zeCV rfl rfl rfl rfl (shM hb) rfl (xc_fall (m := m) (b := b) (t := t) (y := 0) hb (by omega) (by omega) (hc.l (by omega)) (hc.l4 (by omega)) hc.n hc.n60) (by omega) ?_
        dsimp only [Option.toList, List.cons_append, List.nil_append]
        exact zeRe rfl rfl rfl rfl (by simp only [x_reachB, h1, h2, h3, cond_true, cond_false] <;> rfl) (by simp only [x_reachB, h1, h2, h3, cond_true, cond_false] <;> rfl)
def x_reach (m : Nat → Nat → Int32) (b : Nat) (t : Nat) (w : Nat) (v : Int32) : Int32 × (Nat → Nat → Int32) := (bif zc2 .eq v (-1) then (bif zc1 .eq (x_isGuessing m b t) then (x_reachB m b t w v ((x_blockBit m b ((Int32.ofNat w)))) ((Int32.ofNat 0)) ((x_isGuessing m b t))) else (x_reachB m b t w v ((x_blockBit m b ((Int32.ofNat w)))) ((Int32.ofNat 0)) ((x_isGuessing m b t)))) else (bif zc1 .eq (x_isGuessing m b t) then (x_reachB m b t w v ((x_blockBit m b ((Int32.ofNat w)))) ((Int32.ofNat 1)) ((x_isGuessing m b t))) else (bif zc1 .eq (x_isFull m b t ((x_blockBit m b ((Int32.ofNat w))))) then (x_reachB m b t w v ((x_blockBit m b ((Int32.ofNat w)))) ((Int32.ofNat 1)) ((x_isGuessing m b t))) else ((x_fall m b t 1).1, (x_fall m b t 1).2))))
theorem xp_reach {σ : Nat → Nat × (Nat → Int32)} {yy : (Nat → Nat → Int64) × Bool × Nat × Nat} {m : Nat → Nat → Int32} {b : Nat} {t : Nat} {w : Nat} {v : Int32} {d : Nat} (hd : 3 ≤ d + 1) (hb : BB b) (hc : CG m b) (ht : t < 4) (hw : w < 32) : zEv σ (d + 1) 620 0 [some (.ref b), some (.int (Int32.ofNat t)), some (.int (Int32.ofNat w)), some (.int v), none, none, none, none, none] [] (zS1, m, yy) (.inl (some (.int (x_reach m b t w v).1))) (zS1, ((x_reach m b t w v).2), yy) := by
  refine zeP rfl rfl ?_
  refine zeP rfl rfl ?_
  refine zeCV rfl rfl rfl rfl (shM hb) rfl (xc_blockBit (m := m) (b := b) (w := (Int32.ofNat w)) hb) (by omega) ?_
  dsimp only [Option.toList, List.cons_append, List.nil_append]
  refine zeP rfl rfl ?_
  refine zeP rfl rfl ?_
  refine zeK (v := -1) rfl rfl rfl ?_
  refine zeB2 rfl rfl (fun h1 => ?_) (fun h1 => ?_)
  · refine zeKn (c := 0) rfl rfl rfl ?_
    refine zeP rfl rfl ?_
    refine zeP rfl rfl ?_
    refine zeP rfl rfl ?_
    refine zeCV rfl rfl rfl rfl (shM hb) rfl (xc_isGuessing (m := m) (b := b) (t := t) hb ht) (by omega) ?_
    dsimp only [Option.toList, List.cons_append, List.nil_append]
    refine zeP rfl rfl ?_
    refine zeP rfl rfl ?_
    refine zeB1 rfl rfl (fun h2 => ?_) (fun h2 => ?_)
    · simp only [x_reach, h1, h2, cond_true, cond_false]
      exact xp_reachB (b := b) (t := t) (w := w) (v := v) (x := (x_blockBit m b ((Int32.ofNat w)))) (r := (Int32.ofNat 0)) (g := (x_isGuessing m b t)) (m := m) (by omega) hb hc ht hw
    · refine zeP rfl rfl ?_
      refine zeT1 rfl rfl (show zc1 .eq (Int32.ofNat 0) = true by decide) ?_
      simp only [x_reach, h1, h2, cond_true, cond_false]
      exact xp_reachB (b := b) (t := t) (w := w) (v := v) (x := (x_blockBit m b ((Int32.ofNat w)))) (r := (Int32.ofNat 0)) (g := (x_isGuessing m b t)) (m := m) (by omega) hb hc ht hw
  · refine zeKn (c := 1) rfl rfl rfl ?_
    refine zeP rfl rfl ?_
    refine zeP rfl rfl ?_
    refine zeP rfl rfl ?_
    refine zeP rfl rfl ?_
    refine zeCV rfl rfl rfl rfl (shM hb) rfl (xc_isGuessing (m := m) (b := b) (t := t) hb ht) (by omega) ?_
    dsimp only [Option.toList, List.cons_append, List.nil_append]
    refine zeP rfl rfl ?_
    refine zeP rfl rfl ?_
    refine zeB1 rfl rfl (fun h3 => ?_) (fun h3 => ?_)
    · simp only [x_reach, h1, h3, cond_true, cond_false]
      exact xp_reachB (b := b) (t := t) (w := w) (v := v) (x := (x_blockBit m b ((Int32.ofNat w)))) (r := (Int32.ofNat 1)) (g := (x_isGuessing m b t)) (m := m) (by omega) hb hc ht hw
    · refine zeP rfl rfl ?_
      refine zeF1 rfl rfl (show zc1 .eq (Int32.ofNat 1) = false by decide) ?_
      refine zeP rfl rfl ?_
      refine zeP rfl rfl ?_
      refine zeP rfl rfl ?_
      refine zeCV rfl rfl rfl rfl (shM hb) rfl (xc_strandAt (m := m) (b := b) (t := t) hb ht) (by omega) ?_
      dsimp only [Option.toList, List.cons_append, List.nil_append]
      refine zeGR rfl rfl (shS hb (by omega)) rfl rfl ?_
      refine zeP rfl rfl ?_
      refine zeCV rfl rfl rfl rfl (shM hb) rfl (xc_isFull (m := m) (b := b) (t := t) (x := (x_blockBit m b ((Int32.ofNat w)))) hb ht) (by omega) ?_
      dsimp only [Option.toList, List.cons_append, List.nil_append]
      refine zeB1 rfl rfl (fun h4 => ?_) (fun h4 => ?_)
      · simp only [x_reach, h1, h3, h4, cond_true, cond_false]
        exact xp_reachB (b := b) (t := t) (w := w) (v := v) (x := (x_blockBit m b ((Int32.ofNat w)))) (r := (Int32.ofNat 1)) (g := (x_isGuessing m b t)) (m := m) (by omega) hb hc ht hw
      · refine zeP rfl rfl ?_
        refine zeP rfl rfl ?_
        refine zeKn (c := 1) rfl rfl rfl ?_
        refine zeCV rfl rfl rfl rfl (shM hb) rfl (xc_fall (m := m) (b := b) (t := t) (y := 1) hb (by omega) (by omega) (hc.l (by omega)) (hc.l4 (by omega)) hc.n hc.n60) (by omega) ?_
        dsimp only [Option.toList, List.cons_append, List.nil_append]
        exact zeRe rfl rfl rfl rfl (by simp only [x_reach, h1, h3, h4, cond_true, cond_false] <;> rfl) (by simp only [x_reach, h1, h3, h4, cond_true, cond_false] <;> rfl)
theorem xc_reach {σ : Nat → Nat × (Nat → Int32)} {yy : (Nat → Nat → Int64) × Bool × Nat × Nat} {m : Nat → Nat → Int32} {b : Nat} {t : Nat} {w : Nat} {v : Int32} (hb : BB b) (hc : CG m b) (ht : t < 4) (hw : w < 32) : zF σ 3 620 [.ref b, .int (Int32.ofNat t), .int (Int32.ofNat w), .int v] (zS1, m, yy) (.inl (some (.int (x_reach m b t w v).1))) (zS1, ((x_reach m b t w v).2), yy) := by
  intro d hd
  obtain ⟨d, rfl⟩ : ∃ k, d = k + 1 := ⟨d - 1, by omega⟩
  exact xp_reach hd hb hc ht hw
