def x_bitCount (i : Int32) : Int32 := ((((((((i - ((i.toUInt32 >>> (((Int32.ofNat 1)).toUInt32 &&& Int32.toUInt32 31)).toInt32 &&& (Int32.ofNat 1431655765))) &&& (Int32.ofNat 858993459)) + ((((i - ((i.toUInt32 >>> (((Int32.ofNat 1)).toUInt32 &&& Int32.toUInt32 31)).toInt32 &&& (Int32.ofNat 1431655765)))).toUInt32 >>> (((Int32.ofNat 2)).toUInt32 &&& Int32.toUInt32 31)).toInt32 &&& (Int32.ofNat 858993459))) + (((((i - ((i.toUInt32 >>> (((Int32.ofNat 1)).toUInt32 &&& Int32.toUInt32 31)).toInt32 &&& (Int32.ofNat 1431655765))) &&& (Int32.ofNat 858993459)) + ((((i - ((i.toUInt32 >>> (((Int32.ofNat 1)).toUInt32 &&& Int32.toUInt32 31)).toInt32 &&& (Int32.ofNat 1431655765)))).toUInt32 >>> (((Int32.ofNat 2)).toUInt32 &&& Int32.toUInt32 31)).toInt32 &&& (Int32.ofNat 858993459)))).toUInt32 >>> (((Int32.ofNat 4)).toUInt32 &&& Int32.toUInt32 31)).toInt32) &&& (Int32.ofNat 252645135)) + (((((((i - ((i.toUInt32 >>> (((Int32.ofNat 1)).toUInt32 &&& Int32.toUInt32 31)).toInt32 &&& (Int32.ofNat 1431655765))) &&& (Int32.ofNat 858993459)) + ((((i - ((i.toUInt32 >>> (((Int32.ofNat 1)).toUInt32 &&& Int32.toUInt32 31)).toInt32 &&& (Int32.ofNat 1431655765)))).toUInt32 >>> (((Int32.ofNat 2)).toUInt32 &&& Int32.toUInt32 31)).toInt32 &&& (Int32.ofNat 858993459))) + (((((i - ((i.toUInt32 >>> (((Int32.ofNat 1)).toUInt32 &&& Int32.toUInt32 31)).toInt32 &&& (Int32.ofNat 1431655765))) &&& (Int32.ofNat 858993459)) + ((((i - ((i.toUInt32 >>> (((Int32.ofNat 1)).toUInt32 &&& Int32.toUInt32 31)).toInt32 &&& (Int32.ofNat 1431655765)))).toUInt32 >>> (((Int32.ofNat 2)).toUInt32 &&& Int32.toUInt32 31)).toInt32 &&& (Int32.ofNat 858993459)))).toUInt32 >>> (((Int32.ofNat 4)).toUInt32 &&& Int32.toUInt32 31)).toInt32) &&& (Int32.ofNat 252645135))).toUInt32 >>> (((Int32.ofNat 8)).toUInt32 &&& Int32.toUInt32 31)).toInt32) + ((((((((i - ((i.toUInt32 >>> (((Int32.ofNat 1)).toUInt32 &&& Int32.toUInt32 31)).toInt32 &&& (Int32.ofNat 1431655765))) &&& (Int32.ofNat 858993459)) + ((((i - ((i.toUInt32 >>> (((Int32.ofNat 1)).toUInt32 &&& Int32.toUInt32 31)).toInt32 &&& (Int32.ofNat 1431655765)))).toUInt32 >>> (((Int32.ofNat 2)).toUInt32 &&& Int32.toUInt32 31)).toInt32 &&& (Int32.ofNat 858993459))) + (((((i - ((i.toUInt32 >>> (((Int32.ofNat 1)).toUInt32 &&& Int32.toUInt32 31)).toInt32 &&& (Int32.ofNat 1431655765))) &&& (Int32.ofNat 858993459)) + ((((i - ((i.toUInt32 >>> (((Int32.ofNat 1)).toUInt32 &&& Int32.toUInt32 31)).toInt32 &&& (Int32.ofNat 1431655765)))).toUInt32 >>> (((Int32.ofNat 2)).toUInt32 &&& Int32.toUInt32 31)).toInt32 &&& (Int32.ofNat 858993459)))).toUInt32 >>> (((Int32.ofNat 4)).toUInt32 &&& Int32.toUInt32 31)).toInt32) &&& (Int32.ofNat 252645135)) + (((((((i - ((i.toUInt32 >>> (((Int32.ofNat 1)).toUInt32 &&& Int32.toUInt32 31)).toInt32 &&& (Int32.ofNat 1431655765))) &&& (Int32.ofNat 858993459)) + ((((i - ((i.toUInt32 >>> (((Int32.ofNat 1)).toUInt32 &&& Int32.toUInt32 31)).toInt32 &&& (Int32.ofNat 1431655765)))).toUInt32 >>> (((Int32.ofNat 2)).toUInt32 &&& Int32.toUInt32 31)).toInt32 &&& (Int32.ofNat 858993459))) + (((((i - ((i.toUInt32 >>> (((Int32.ofNat 1)).toUInt32 &&& Int32.toUInt32 31)).toInt32 &&& (Int32.ofNat 1431655765))) &&& (Int32.ofNat 858993459)) + ((((i - ((i.toUInt32 >>> (((Int32.ofNat 1)).toUInt32 &&& Int32.toUInt32 31)).toInt32 &&& (Int32.ofNat 1431655765)))).toUInt32 >>> (((Int32.ofNat 2)).toUInt32 &&& Int32.toUInt32 31)).toInt32 &&& (Int32.ofNat 858993459)))).toUInt32 >>> (((Int32.ofNat 4)).toUInt32 &&& Int32.toUInt32 31)).toInt32) &&& (Int32.ofNat 252645135))).toUInt32 >>> (((Int32.ofNat 8)).toUInt32 &&& Int32.toUInt32 31)).toInt32)).toUInt32 >>> (((Int32.ofNat 16)).toUInt32 &&& Int32.toUInt32 31)).toInt32) &&& (Int32.ofNat 63))
theorem xp_bitCount {σ : Nat → Nat × (Nat → Int32)} {yy : (Nat → Nat → Int64) × Bool × Nat × Nat} {m : Nat → Nat → Int32} {i : Int32} {d : Nat} (hd : 1 ≤ d + 1) : zEv σ (d + 1) 2200 0 [some (.int i)] [] (zS1, m, yy) (.inl (some (.int (x_bitCount i)))) (zS1, m, yy) := by
  refine zeP rfl rfl ?_
  refine zeP rfl rfl ?_
  refine zeKn (c := 1) rfl rfl rfl ?_
  refine zeP rfl rfl ?_
  refine zeKn (c := 1431655765) rfl rfl rfl ?_
  refine zeP rfl rfl ?_
  refine zeP rfl rfl ?_
  refine zeP rfl rfl ?_
  refine zeP rfl rfl ?_
  refine zeKn (c := 858993459) rfl rfl rfl ?_
  refine zeP rfl rfl ?_
  refine zeP rfl rfl ?_
  refine zeKn (c := 2) rfl rfl rfl ?_
  refine zeP rfl rfl ?_
  refine zeKn (c := 858993459) rfl rfl rfl ?_
  refine zeP rfl rfl ?_
  refine zeP rfl rfl ?_
  refine zeP rfl rfl ?_
  refine zeP rfl rfl ?_
  refine zeP rfl rfl ?_
  refine zeKn (c := 4) rfl rfl rfl ?_
  refine zeP rfl rfl ?_
  refine zeP rfl rfl ?_
  refine zeKn (c := 252645135) rfl rfl rfl ?_
  refine zeP rfl rfl ?_
  refine zeP rfl rfl ?_
  refine zeP rfl rfl ?_
  refine zeP rfl rfl ?_
  refine zeKn (c := 8) rfl rfl rfl ?_
  refine zeP rfl rfl ?_
  refine zeP rfl rfl ?_
  refine zeP rfl rfl ?_
  refine zeP rfl rfl ?_
  refine zeP rfl rfl ?_
  refine zeKn (c := 16) rfl rfl rfl ?_
  refine zeP rfl rfl ?_
  refine zeP rfl rfl ?_
  refine zeP rfl rfl ?_
  refine zeP rfl rfl ?_
  refine zeKn (c := 63) rfl rfl rfl ?_
  refine zeP rfl rfl ?_
  exact zeRe rfl rfl rfl rfl (by rfl) (by rfl)
theorem xc_bitCount {σ : Nat → Nat × (Nat → Int32)} {yy : (Nat → Nat → Int64) × Bool × Nat × Nat} {m : Nat → Nat → Int32} {i : Int32} : zF σ 1 2200 [.int i] (zS1, m, yy) (.inl (some (.int (x_bitCount i)))) (zS1, m, yy) := by
  intro d hd
  obtain ⟨d, rfl⟩ : ∃ k, d = k + 1 := ⟨d - 1, by omega⟩
  exact xp_bitCount hd 
def x_isFull (m : Nat → Nat → Int32) (b : Nat) (t : Nat) (x : Int32) : Int32 := (bif zc1 .ne ((m ((b + 14 + 7 * t)) 7) &&& x) then (Int32.ofNat 0) else (bif zc2 .lt (x_bitCount ((m ((b + 14 + 7 * t)) 7))) (m ((b + 3)) 3) then (Int32.ofNat 0) else (Int32.ofNat 1)))
theorem xp_isFull {σ : Nat → Nat × (Nat → Int32)} {yy : (Nat → Nat → Int64) × Bool × Nat × Nat} {m : Nat → Nat → Int32} {b : Nat} {t : Nat} {x : Int32} {d : Nat} (hd : 2 ≤ d + 1) (hb : BB b) (ht : t < 4) : zEv σ (d + 1) 621 0 [some (.ref b), some (.ref (b + 14 + 7 * t)), some (.int x)] [] (zS1, m, yy) (.inl (some (.int (x_isFull m b t x)))) (zS1, m, yy) := by
  refine zeP rfl rfl ?_
  refine zeGI rfl rfl (shG hb (by omega)) rfl rfl ?_
  refine zeP rfl rfl ?_
  refine zeP rfl rfl ?_
  refine zeB1 rfl rfl (fun h1 => ?_) (fun h1 => ?_)
  · refine zeKn (c := 0) rfl rfl rfl ?_
    exact zeRe rfl rfl rfl rfl (by simp only [x_isFull, h1, cond_true, cond_false] <;> rfl) (by simp only [x_isFull, h1, cond_true, cond_false] <;> rfl)
  · refine zeP rfl rfl ?_
    refine zeGI rfl rfl (shG hb (by omega)) rfl rfl ?_
    refine zeCF rfl rfl rfl rfl rfl rfl (xc_bitCount (m := m) (i := (m ((b + 14 + 7 * t)) 7)) ) (by omega) ?_
    dsimp only [Option.toList, List.cons_append, List.nil_append]
    refine zeP rfl rfl ?_
    refine zeGR rfl rfl (shM hb) rfl rfl ?_
    refine zeKn (c := 3) rfl rfl rfl ?_
    refine zeAL (k := 3) rfl (bb1000 hb (by omega)) (shE hb) rfl (by omega) ?_
    refine zeB2 rfl rfl (fun h2 => ?_) (fun h2 => ?_)
    · refine zeKn (c := 0) rfl rfl rfl ?_
      exact zeRe rfl rfl rfl rfl (by simp only [x_isFull, h1, h2, cond_true, cond_false] <;> rfl) (by simp only [x_isFull, h1, h2, cond_true, cond_false] <;> rfl)
    · refine zeKn (c := 1) rfl rfl rfl ?_
      refine zeP rfl rfl ?_
      exact zeRe rfl rfl rfl rfl (by simp only [x_isFull, h1, h2, cond_true, cond_false] <;> rfl) (by simp only [x_isFull, h1, h2, cond_true, cond_false] <;> rfl)
theorem xc_isFull {σ : Nat → Nat × (Nat → Int32)} {yy : (Nat → Nat → Int64) × Bool × Nat × Nat} {m : Nat → Nat → Int32} {b : Nat} {t : Nat} {x : Int32} (hb : BB b) (ht : t < 4) : zF σ 2 621 [.ref b, .ref (b + 14 + 7 * t), .int x] (zS1, m, yy) (.inl (some (.int (x_isFull m b t x)))) (zS1, m, yy) := by
  intro d hd
  obtain ⟨d, rfl⟩ : ∃ k, d = k + 1 := ⟨d - 1, by omega⟩
  exact xp_isFull hd hb ht
def xl_holders (m : Nat → Nat → Int32) (b : Nat) (x : Int32) (u : Int32) (w : Int32) : Nat → Int32 → Nat → Int32
  | 0, s, k => s
  | n + 1, s, k => (bif zc1 .eq w then (bif zc2 .eq (Int32.ofNat k) u then (xl_holders m b x u w n s ((k + 1))) else (bif zc1 .eq (m ((b + 14 + 7 * k)) 0) then (xl_holders m b x u w n s ((k + 1))) else (bif zc1 .eq ((m ((b + 14 + 7 * k)) 7) &&& x) then (xl_holders m b x u w n s ((k + 1))) else (xl_holders m b x u w n ((s ||| ((Int32.ofNat 1) <<< ((Int32.ofNat k) &&& 31)))) ((k + 1)))))) else (bif zc2 .eq (Int32.ofNat k) u then (xl_holders m b x u w n s ((k + 1))) else (bif zc1 .eq (m ((b + 14 + 7 * k)) 0) then (xl_holders m b x u w n s ((k + 1))) else (bif zc1 .eq (((m ((b + 14 + 7 * k)) 6) ||| (m ((b + 14 + 7 * k)) 7)) &&& x) then (xl_holders m b x u w n s ((k + 1))) else (xl_holders m b x u w n ((s ||| ((Int32.ofNat 1) <<< ((Int32.ofNat k) &&& 31)))) ((k + 1)))))))
theorem xw_holders {σ : Nat → Nat × (Nat → Int32)} {yy : (Nat → Nat → Int64) × Bool × Nat × Nat} {m : Nat → Nat → Int32} {b : Nat} {x : Int32} {u : Int32} {w : Int32} {d : Nat} (hd : 2 ≤ d + 1) (hb : BB b) (hc : CG m b) (hc4 : mv m b 5 ≤ 4) : ∀ (n : Nat) (s : Int32) (k : Nat) (x6 : Option Value) (x7 : Option Value), k + n = mv m b 5 → zEv σ (d + 1) 622 6 [some (.ref b), some (.int x), some (.int u), some (.int w), some (.int s), some (.int (Int32.ofNat k)), x6, x7] [] (zS1, m, yy) (.inl (some (.int (xl_holders m b x u w n s k)))) (zS1, m, yy) := by
  intro n
  induction n with
  | zero =>
    intro s k x6 x7 hk
    refine zeP rfl rfl ?_
    refine zeP rfl rfl ?_
    refine zeGI rfl rfl (shM hb) rfl rfl ?_
    rw [hc.c]
    refine zeT2 rfl rfl (zcge (by omega) (by omega) (by omega)) ?_
    refine zeP rfl rfl ?_
    exact zeRe rfl rfl rfl rfl (by rfl) (by rfl)
  | succ n ih =>
    intro s k x6 x7 hk
    refine zeP rfl rfl ?_
    refine zeP rfl rfl ?_
    refine zeGI rfl rfl (shM hb) rfl rfl ?_
    rw [hc.c]
    refine zeF2 rfl rfl (zcge_f (by omega) (by omega) (by omega)) ?_
    refine zeP rfl rfl ?_
    refine zeP rfl rfl ?_
    refine zeCV rfl rfl rfl rfl (shM hb) rfl (xc_strandAt (m := m) (b := b) (t := k) hb (by omega)) (by omega) ?_
    dsimp only [Option.toList, List.cons_append, List.nil_append]
    refine zeGR rfl rfl (shS hb (by omega)) rfl rfl ?_
    refine zeP rfl rfl ?_
    refine zeP rfl rfl ?_
    refine zeB1 rfl rfl (fun h1 => ?_) (fun h1 => ?_)
    · refine zeP rfl rfl ?_
      refine zeGI rfl rfl (shG hb (by omega)) rfl rfl ?_
      refine zeP rfl rfl ?_
      refine zeP rfl rfl ?_
      refine zeP rfl rfl ?_
      refine zeB2 rfl rfl (fun h2 => ?_) (fun h2 => ?_)
      · refine zeInc rfl rfl ?_
        refine zeP rfl rfl ?_
        simp only [xl_holders, h1, h2, cond_true, cond_false]
        exact ih (s) ((k + 1)) (some (.ref (b + 14 + 7 * k))) (some (.int (m ((b + 14 + 7 * k)) 7)))   (by omega) 
      · refine zeP rfl rfl ?_
        refine zeGI rfl rfl (shG hb (by omega)) rfl rfl ?_
        refine zeB1 rfl rfl (fun h3 => ?_) (fun h3 => ?_)
        · refine zeInc rfl rfl ?_
          refine zeP rfl rfl ?_
          simp only [xl_holders, h1, h2, h3, cond_true, cond_false]
          exact ih (s) ((k + 1)) (some (.ref (b + 14 + 7 * k))) (some (.int (m ((b + 14 + 7 * k)) 7)))   (by omega) 
        · refine zeP rfl rfl ?_
          refine zeP rfl rfl ?_
          refine zeP rfl rfl ?_
          refine zeB1 rfl rfl (fun h4 => ?_) (fun h4 => ?_)
          · refine zeInc rfl rfl ?_
            refine zeP rfl rfl ?_
            simp only [xl_holders, h1, h2, h3, h4, cond_true, cond_false]
            exact ih (s) ((k + 1)) (some (.ref (b + 14 + 7 * k))) (some (.int (m ((b + 14 + 7 * k)) 7)))   (by omega) 
          · refine zeP rfl rfl ?_
            refine zeKn (c := 1) rfl rfl rfl ?_
            refine zeP rfl rfl ?_
            refine zeP rfl rfl ?_
            refine zeP rfl rfl ?_
            refine zeP rfl rfl ?_
            refine zeInc rfl rfl ?_
            refine zeP rfl rfl ?_
            simp only [xl_holders, h1, h2, h3, h4, cond_true, cond_false]
            exact ih ((s ||| ((Int32.ofNat 1) <<< ((Int32.ofNat k) &&& 31)))) ((k + 1)) (some (.ref (b + 14 + 7 * k))) (some (.int (m ((b + 14 + 7 * k)) 7)))   (by omega) 
    · refine zeP rfl rfl ?_
      refine zeGI rfl rfl (shG hb (by omega)) rfl rfl ?_
      refine zeP rfl rfl ?_
      refine zeGI rfl rfl (shG hb (by omega)) rfl rfl ?_
      refine zeP rfl rfl ?_
      refine zeP rfl rfl ?_
      refine zeP rfl rfl ?_
      refine zeP rfl rfl ?_
      refine zeP rfl rfl ?_
      refine zeB2 rfl rfl (fun h5 => ?_) (fun h5 => ?_)
      · refine zeInc rfl rfl ?_
        refine zeP rfl rfl ?_
        simp only [xl_holders, h1, h5, cond_true, cond_false]
        exact ih (s) ((k + 1)) (some (.ref (b + 14 + 7 * k))) (some (.int ((m ((b + 14 + 7 * k)) 6) ||| (m ((b + 14 + 7 * k)) 7))))   (by omega) 
      · refine zeP rfl rfl ?_
        refine zeGI rfl rfl (shG hb (by omega)) rfl rfl ?_
        refine zeB1 rfl rfl (fun h6 => ?_) (fun h6 => ?_)
        · refine zeInc rfl rfl ?_
          refine zeP rfl rfl ?_
          simp only [xl_holders, h1, h5, h6, cond_true, cond_false]
          exact ih (s) ((k + 1)) (some (.ref (b + 14 + 7 * k))) (some (.int ((m ((b + 14 + 7 * k)) 6) ||| (m ((b + 14 + 7 * k)) 7))))   (by omega) 
        · refine zeP rfl rfl ?_
          refine zeP rfl rfl ?_
          refine zeP rfl rfl ?_
          refine zeB1 rfl rfl (fun h7 => ?_) (fun h7 => ?_)
          · refine zeInc rfl rfl ?_
            refine zeP rfl rfl ?_
            simp only [xl_holders, h1, h5, h6, h7, cond_true, cond_false]
            exact ih (s) ((k + 1)) (some (.ref (b + 14 + 7 * k))) (some (.int ((m ((b + 14 + 7 * k)) 6) ||| (m ((b + 14 + 7 * k)) 7))))   (by omega) 
          · refine zeP rfl rfl ?_
            refine zeKn (c := 1) rfl rfl rfl ?_
            refine zeP rfl rfl ?_
            refine zeP rfl rfl ?_
            refine zeP rfl rfl ?_
            refine zeP rfl rfl ?_
            refine zeInc rfl rfl ?_
            refine zeP rfl rfl ?_
            simp only [xl_holders, h1, h5, h6, h7, cond_true, cond_false]
            exact ih ((s ||| ((Int32.ofNat 1) <<< ((Int32.ofNat k) &&& 31)))) ((k + 1)) (some (.ref (b + 14 + 7 * k))) (some (.int ((m ((b + 14 + 7 * k)) 6) ||| (m ((b + 14 + 7 * k)) 7))))   (by omega) 
def x_holders (m : Nat → Nat → Int32) (b : Nat) (x : Int32) (u : Int32) (w : Int32) : Int32 := (xl_holders m b x u w ((mv m b 5)) ((Int32.ofNat 0)) 0)
theorem xp_holders {σ : Nat → Nat × (Nat → Int32)} {yy : (Nat → Nat → Int64) × Bool × Nat × Nat} {m : Nat → Nat → Int32} {b : Nat} {x : Int32} {u : Int32} {w : Int32} {d : Nat} (hd : 2 ≤ d + 1) (hb : BB b) (hc : CG m b) : zEv σ (d + 1) 622 0 [some (.ref b), some (.int x), some (.int u), some (.int w), none, none, none, none] [] (zS1, m, yy) (.inl (some (.int (x_holders m b x u w)))) (zS1, m, yy) := by
  refine zeKn (c := 0) rfl rfl rfl ?_
  refine zeP rfl rfl ?_
  refine zeKn (c := 0) rfl rfl rfl ?_
  refine zeP rfl rfl ?_
  simp only [x_holders, cond_true, cond_false]
  exact xw_holders (b := b) (x := x) (u := u) (w := w) (m := m) (by omega) hb hc hc.c4 ((mv m b 5)) ((Int32.ofNat 0)) (0) (none) (none)   (by omega) 
theorem xc_holders {σ : Nat → Nat × (Nat → Int32)} {yy : (Nat → Nat → Int64) × Bool × Nat × Nat} {m : Nat → Nat → Int32} {b : Nat} {x : Int32} {u : Int32} {w : Int32} (hb : BB b) (hc : CG m b) : zF σ 2 622 [.ref b, .int x, .int u, .int w] (zS1, m, yy) (.inl (some (.int (x_holders m b x u w)))) (zS1, m, yy) := by
  intro d hd
  obtain ⟨d, rfl⟩ : ∃ k, d = k + 1 := ⟨d - 1, by omega⟩
  exact xp_holders hd hb hc
def xl_anyBefore (m : Nat → Nat → Int32) (b : Nat) (x : Int32) (y : Int32) : Nat → Nat → Int32
  | 0, k => (Int32.ofNat 0)
  | n + 1, k => (bif zc1 .eq ((x.toUInt32 >>> (((Int32.ofNat k)).toUInt32 &&& Int32.toUInt32 31)).toInt32 &&& (Int32.ofNat 1)) then (xl_anyBefore m b x y n ((k + 1))) else (bif zc2 .ge (m ((b + 14 + 7 * k)) 3) y then (xl_anyBefore m b x y n ((k + 1))) else (Int32.ofNat 1)))
theorem xw_anyBefore {σ : Nat → Nat × (Nat → Int32)} {yy : (Nat → Nat → Int64) × Bool × Nat × Nat} {m : Nat → Nat → Int32} {b : Nat} {x : Int32} {y : Int32} {d : Nat} (hd : 2 ≤ d + 1) (hb : BB b) (hc : CG m b) (hc4 : mv m b 5 ≤ 4) : ∀ (n : Nat) (k : Nat), k + n = mv m b 5 → zEv σ (d + 1) 623 2 [some (.ref b), some (.int x), some (.int y), some (.int (Int32.ofNat k))] [] (zS1, m, yy) (.inl (some (.int (xl_anyBefore m b x y n k)))) (zS1, m, yy) := by
  intro n
  induction n with
  | zero =>
    intro k hk
    refine zeP rfl rfl ?_
    refine zeP rfl rfl ?_
    refine zeGI rfl rfl (shM hb) rfl rfl ?_
    rw [hc.c]
    refine zeT2 rfl rfl (zcge (by omega) (by omega) (by omega)) ?_
    refine zeKn (c := 0) rfl rfl rfl ?_
    exact zeRe rfl rfl rfl rfl (by rfl) (by rfl)
  | succ n ih =>
    intro k hk
    refine zeP rfl rfl ?_
    refine zeP rfl rfl ?_
    refine zeGI rfl rfl (shM hb) rfl rfl ?_
    rw [hc.c]
    refine zeF2 rfl rfl (zcge_f (by omega) (by omega) (by omega)) ?_
    refine zeP rfl rfl ?_
    refine zeP rfl rfl ?_
    refine zeP rfl rfl ?_
    refine zeKn (c := 1) rfl rfl rfl ?_
    refine zeP rfl rfl ?_
    refine zeB1 rfl rfl (fun h1 => ?_) (fun h1 => ?_)
    · refine zeInc rfl rfl ?_
      refine zeP rfl rfl ?_
      simp only [xl_anyBefore, h1, cond_true, cond_false]
      exact ih ((k + 1))   (by omega) 
    · refine zeP rfl rfl ?_
      refine zeP rfl rfl ?_
      refine zeCV rfl rfl rfl rfl (shM hb) rfl (xc_strandAt (m := m) (b := b) (t := k) hb (by omega)) (by omega) ?_
      dsimp only [Option.toList, List.cons_append, List.nil_append]
      refine zeGR rfl rfl (shS hb (by omega)) rfl rfl ?_
      refine zeGI rfl rfl (shG hb (by omega)) rfl rfl ?_
      refine zeP rfl rfl ?_
      refine zeB2 rfl rfl (fun h2 => ?_) (fun h2 => ?_)
      · refine zeInc rfl rfl ?_
        refine zeP rfl rfl ?_
        simp only [xl_anyBefore, h1, h2, cond_true, cond_false]
        exact ih ((k + 1))   (by omega) 
      · refine zeKn (c := 1) rfl rfl rfl ?_
        exact zeRe rfl rfl rfl rfl (by simp only [xl_anyBefore, h1, h2, cond_true, cond_false] <;> rfl) (by simp only [xl_anyBefore, h1, h2, cond_true, cond_false] <;> rfl)
def x_anyBefore (m : Nat → Nat → Int32) (b : Nat) (x : Int32) (y : Int32) : Int32 := (xl_anyBefore m b x y ((mv m b 5)) 0)
theorem xp_anyBefore {σ : Nat → Nat × (Nat → Int32)} {yy : (Nat → Nat → Int64) × Bool × Nat × Nat} {m : Nat → Nat → Int32} {b : Nat} {x : Int32} {y : Int32} {d : Nat} (hd : 2 ≤ d + 1) (hb : BB b) (hc : CG m b) : zEv σ (d + 1) 623 0 [some (.ref b), some (.int x), some (.int y), none] [] (zS1, m, yy) (.inl (some (.int (x_anyBefore m b x y)))) (zS1, m, yy) := by
  refine zeKn (c := 0) rfl rfl rfl ?_
  refine zeP rfl rfl ?_
  simp only [x_anyBefore, cond_true, cond_false]
  exact xw_anyBefore (b := b) (x := x) (y := y) (m := m) (by omega) hb hc hc.c4 ((mv m b 5)) (0)   (by omega) 
theorem xc_anyBefore {σ : Nat → Nat × (Nat → Int32)} {yy : (Nat → Nat → Int64) × Bool × Nat × Nat} {m : Nat → Nat → Int32} {b : Nat} {x : Int32} {y : Int32} (hb : BB b) (hc : CG m b) : zF σ 2 623 [.ref b, .int x, .int y] (zS1, m, yy) (.inl (some (.int (x_anyBefore m b x y)))) (zS1, m, yy) := by
  intro d hd
  obtain ⟨d, rfl⟩ : ∃ k, d = k + 1 := ⟨d - 1, by omega⟩
  exact xp_anyBefore hd hb hc
def x_gwrite (m : Nat → Nat → Int32) (b : Nat) (t : Nat) (w : Nat) (v : Int32) (x : Int32) : (Nat → Nat → Int32) := (zm2 ((zm2 ((zm2 m ((b + 16 + 7 * t)) w v)) ((b + 14 + 7 * t)) 9 ((((zm2 m ((b + 16 + 7 * t)) w v)) ((b + 14 + 7 * t)) 9) ||| ((Int32.ofNat 1) <<< ((Int32.ofNat w) &&& 31))))) ((b + 14 + 7 * t)) 7 ((((zm2 ((zm2 m ((b + 16 + 7 * t)) w v)) ((b + 14 + 7 * t)) 9 ((((zm2 m ((b + 16 + 7 * t)) w v)) ((b + 14 + 7 * t)) 9) ||| ((Int32.ofNat 1) <<< ((Int32.ofNat w) &&& 31))))) ((b + 14 + 7 * t)) 7) ||| x))
theorem xp_gwrite {σ : Nat → Nat × (Nat → Int32)} {yy : (Nat → Nat → Int64) × Bool × Nat × Nat} {m : Nat → Nat → Int32} {b : Nat} {t : Nat} {w : Nat} {v : Int32} {x : Int32} {d : Nat} (hd : 1 ≤ d + 1) (hb : BB b) (ht : t < 4) (hw : w < 32) : zEv σ (d + 1) 7 0 [some (.ref (b + 14 + 7 * t)), some (.int (Int32.ofNat w)), some (.int v), some (.int x)] [] (zS1, m, yy) (.inl none) (zS1, ((x_gwrite m b t w v x)), yy) := by
  refine zeP rfl rfl ?_
  refine zeGR rfl rfl (shG hb (by omega)) rfl rfl ?_
  refine zeP rfl rfl ?_
  refine zeKn (c := 31) rfl rfl rfl ?_
  refine zeON (c := w) rfl rfl (zand31 _ hw) ?_
  refine zeP rfl rfl ?_
  refine zeAS (k := w) rfl (shV hb (by omega)) rfl (by omega) ?_
  refine zeP rfl rfl ?_
  refine zeP rfl rfl ?_
  refine zeGI rfl rfl (shG hb (by omega)) rfl rfl ?_
  refine zeKn (c := 1) rfl rfl rfl ?_
  refine zeP rfl rfl ?_
  refine zeP rfl rfl ?_
  refine zeP rfl rfl ?_
  refine zePI rfl rfl (shG hb (by omega)) rfl ?_
  refine zeP rfl rfl ?_
  refine zeP rfl rfl ?_
  refine zeGI rfl rfl (shG hb (by omega)) rfl rfl ?_
  refine zeP rfl rfl ?_
  refine zeP rfl rfl ?_
  refine zePI rfl rfl (shG hb (by omega)) rfl ?_
  exact zeRe rfl rfl rfl rfl (by rfl) (by rfl)
theorem xc_gwrite {σ : Nat → Nat × (Nat → Int32)} {yy : (Nat → Nat → Int64) × Bool × Nat × Nat} {m : Nat → Nat → Int32} {b : Nat} {t : Nat} {w : Nat} {v : Int32} {x : Int32} (hb : BB b) (ht : t < 4) (hw : w < 32) : zF σ 1 7 [.ref (b + 14 + 7 * t), .int (Int32.ofNat w), .int v, .int x] (zS1, m, yy) (.inl none) (zS1, ((x_gwrite m b t w v x)), yy) := by
  intro d hd
  obtain ⟨d, rfl⟩ : ∃ k, d = k + 1 := ⟨d - 1, by omega⟩
  exact xp_gwrite hd hb ht hw
