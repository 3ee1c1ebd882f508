theorem drop_rx {m mm : Nat → Nat → Int32} {b : Nat} {W : Nat → Int32} {t l : Nat} (h : RC m b W) (hx : WX W) (hc : CG m b) (ht : t < nv W 9) (hl : l < 4) (hA : AL W t) : RD b t mm W (x_dropLock m b t l) (q_drops mm W t l) := by
  have h4 := hx.W.N4
  have ht4 : t < 4 := by omega
  have w32 := hx.W.lk32 hl
  have hwr := writes_rx (mm := mm) (w := nv W (16 + l)) (v := Int32.ofNat 0) h hx hc ht w32 (by decide)
  have hw9 := writes_9 (mm := mm) (t := t) (w := nv W (16 + l)) (v := Int32.ofNat 0) hx.W ht4
  have g0 := h.gs ht4 ht
  obtain ⟨p1, p2, p3⟩ := place_rx (l := Int32.ofNat l) h hx ht
  unfold x_dropLock q_drops
  rw [h.lw hl, g0, zne2_n (q_placeLeft W t (Int32.ofNat l)) (-1), p1]
  rcases hx.W.g01 ht4 with e | e
  · -- not guessing: nothing is left out
    have q10 : W (376 + 103 * t + 10) = Int32.ofNat 0 := (hx.W.2 t ht4).2.2.2.2.2.2.1 e
    have n10 : nv W (376 + 103 * t + 10) = 0 := by unfold nv; rw [q10, nv_on (by omega)]
    have pl : q_placeLeft W t (Int32.ofNat l) = -1 := by
      unfold q_placeLeft
      rw [n10]
      rfl
    have q2 : zc2 .ne (q_of W t 2) (Int32.ofNat 1) = true := decide_eq_true (by show ¬ W (376 + 103 * t + 2) = Int32.ofNat 1; rw [e]; decide)
    rw [e, zeq0, cond_true, pl, show zc2 .eq (-1 : Int32) (-1) = true from by decide, Bool.not_true, cond_false, q2, cond_true]
    generalize x_reach m b t (nv W (16 + l)) (Int32.ofNat 0) = P at hwr ⊢
    generalize q_writes mm W t (nv W (16 + l)) (Int32.ofNat 0) = Q at hwr hw9 ⊢
    obtain ⟨pp, m'⟩ := P
    obtain ⟨qq, W', mm'⟩ := Q
    obtain ⟨h', x', c', d⟩ := hwr
    rcases d with ⟨d1, d2, d3, f⟩ | ⟨-, -, -, d4⟩
    rotate_left
    · rw [e] at d4
      exact absurd d4 (by decide)
    dsimp only at h' x' c' d1 d2 d3 f hw9 ⊢
    subst d1
    subst d2
    subst d3
    have n9 : nv W' 9 = nv W 9 := nv_of hw9
    have e2 : W' (376 + 103 * t + 2) = Int32.ofNat 0 := (f.2 2 (by omega) (by omega) (by omega)).trans e
    have g7 : m' b 7 = W' 11 := h'.glob (k := 11) (by omega) (by omega)
    rw [zn1, cond_true, show zc2 .ne (Int32.ofNat 1) (Int32.ofNat 1) = false from by decide, cond_false, h'.gs ht4 (by omega), e2, zne0, cond_false, g7]
    refine ⟨h'.log x'.W.C c'.n60, x'.logs _ _ _, c'.logAdd _ _ _ _, ?_, Or.inl ⟨rfl, rfl, rfl, Or.inl ?_⟩⟩
    · exact (nv_of (logs_fr x'.W.C (by omega) (by omega))).trans n9
    · exact (logs_fr x'.W.C (by omega) (by omega)).trans (f.2 21 (by omega) (by omega) (by omega))
  · have q2 : zc2 .ne (q_of W t 2) (Int32.ofNat 1) = false := decide_eq_false (fun z => z e)
    rw [e, zeq1', cond_false, q2, cond_false]
    cases hp : zc2 .eq (q_placeLeft W t (Int32.ofNat l)) (-1) with
    | true =>
      simp only [cnT, cnF, Bool.not_true]
      generalize x_reach m b t (nv W (16 + l)) (Int32.ofNat 0) = P at hwr ⊢
      generalize q_writes mm W t (nv W (16 + l)) (Int32.ofNat 0) = Q at hwr hw9 ⊢
      obtain ⟨pp, m'⟩ := P
      obtain ⟨qq, W', mm'⟩ := Q
      have D := hwr.d hw9
      obtain ⟨h', x', c', d⟩ := hwr
      rcases d with ⟨d1, d2, d3, f⟩ | ⟨d1, d2, d3, -⟩
      · dsimp only at h' x' c' d1 d2 d3 f hw9 D ⊢
        subst d1
        subst d2
        subst d3
        have n9 : nv W' 9 = nv W 9 := nv_of hw9
        have e2 : W' (376 + 103 * t + 2) = Int32.ofNat 1 := (f.2 2 (by omega) (by omega) (by omega)).trans e
        rw [zn1, cond_true, show zc2 .ne (Int32.ofNat 1) (Int32.ofNat 1) = false from by decide, cond_false, h'.gs ht4 (by omega), e2, zn1, cond_true]
        exact D
      · dsimp only at h' x' c' d1 d2 d3 hw9 D ⊢
        subst d1
        subst d2
        subst d3
        rw [zne0, cond_false, show zc2 .ne (-1 : Int32) (Int32.ofNat 1) = true from by decide, cond_true]
        exact D
    | false =>
      simp only [cnT, cnF, Bool.not_false]
      have n1 := hx.1.2.2.1 t ht4 e
      obtain ⟨o1, o2, o3⟩ := (hx.W.2 t ht4).2.1
      have p2' := p2 n1
      cases hL : zc2 .eq (x_latest m b t) (Int32.ofNat l) with
      | false =>
        rw [p2', hL]
        exact RD.fell h hx hc ht (by omega) e
      | true =>
        rw [p2', hL]
        rw [hL] at p2'
        have ep : q_placeLeft W t (Int32.ofNat l) = Int32.ofNat (nv W (376 + 103 * t + 10) - 1) := by
          rw [of_decide_eq_true p2', show q_of W t 10 = Int32.ofNat (nv W (376 + 103 * t + 10)) from o1, i_sub n1]
        have ev : W (376 + 103 * t + 10) - Int32.ofNat 1 = Int32.ofNat (nv W (376 + 103 * t + 10) - 1) := by
          rw [← i_sub n1, ← o1]
        simp only [cnT]
        rw [h.left ht4 ht, ev, ep, zx_at]
        by_cases n2 : nv W (376 + 103 * t + 10) = 1
        · rw [n2, show 1 - 1 = 0 from rfl, zne0, cond_false, cond_false]
          have r0 := h.q1 (t := t) (n := 0) (x := Int32.ofNat 0) hx.W.C ht4 rfl (by omega) (fun j hj => absurd hj (Nat.not_lt_zero _))
          have u : ∀ j, j ≠ 376 + 103 * t + 10 → upd W (376 + 103 * t + 10) (Int32.ofNat 0) j = W j := fun j hj => upd_ne _ _ hj
          have k0 := KG.qty (n := 0) ⟨hx.W, hA⟩ ht4 (by omega) (by rw [e]; decide)
          have kk := keepL_rx (b := b) (t := t) (l := l) hl ht4 32 0 (zm2 m (b + 14 + 7 * t) 5 (Int32.ofNat 0)) (upd W (376 + 103 * t + 10) (Int32.ofNat 0)) rfl r0 k0.1 (hx.1.2.2.2.of (fun j hj => u j (by omega))) (hx.2.1.of (u _ (by omega))) (hx.2.2.1.of (u _ (by omega))) (fun v hv hvt => (hx.T hv).of hx.W hv (fun c hc _ => u _ (by omega))) ((hx.2.2.2 t ht4).of hx.W ht4 (u _ (by omega)) (u _ (by omega)) (u _ (by omega)) (fun p hp => u _ (by omega))) (hc.setq ht4 (by omega)) (by rw [nv_of (u 9 (by omega))]; exact ht) k0.2 ((u _ (by omega)).trans e)
          rw [isKept_congr hl 32 0 _ W rfl u] at kk
          obtain ⟨i9, i21⟩ := isKept_9 (t := t) hl 32 0 W rfl hx.W.C
          exact ⟨kk.1, kk.2, (hc.setq ht4 (by omega)).keep ht4 hl, nv_of i9, Or.inl ⟨rfl, rfl, rfl, Or.inl i21⟩⟩
        · have z : ∀ k, k < 4 → 1 ≤ k → zc1 .ne (Int32.ofNat k) = true := by decide +kernel
          rw [z _ (by omega) (by omega), cond_true, cond_true]
          have u : ∀ j, j ≠ 376 + 103 * t + 10 → upd W (376 + 103 * t + 10) (Int32.ofNat (nv W (376 + 103 * t + 10) - 1)) j = W j := fun j hj => upd_ne _ _ hj
          have k0 := KG.qty (n := nv W (376 + 103 * t + 10) - 1) ⟨hx.W, hA⟩ ht4 (by omega) (by rw [e]; decide)
          refine ⟨h.q1 (t := t) hx.W.C ht4 rfl (by omega) (fun j hj => h.lo ht4 ht (by omega) (by omega)), hx.one ht4 k0.1 (fun k hk => u k (by omega)) (fun v hv hvt c hc => u _ (by omega)) ⟨fun q => ?_, fun _ => ?_, (hx.2.2.2 t ht4).of hx.W ht4 (u _ (by omega)) (u _ (by omega)) (u _ (by omega)) (fun p hp => u _ (by omega))⟩, hc.setq ht4 (by omega), nv_of (u 9 (by omega)), Or.inl ⟨rfl, rfl, rfl, Or.inl (u _ (by omega))⟩⟩
          · dsimp only at q
            rw [u _ (by omega), e] at q
            exact absurd q (by decide)
          · dsimp only
            show 1 ≤ (upd W (376 + 103 * t + 10) (Int32.ofNat (nv W (376 + 103 * t + 10) - 1)) (376 + 103 * t + 10)).toNatClampNeg
            rw [upd_at, nv_on (by omega)]
            omega
