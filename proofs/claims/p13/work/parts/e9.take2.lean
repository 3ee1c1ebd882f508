/-! guesses begin alike; takes as a whole -/
theorem RC.q1 {m : Nat → Nat → Int32} {b : Nat} {W : Nat → Int32} {t n : Nat} {x : Int32} (h : RC m b W) (hC : WC W) (ht : t < 4) (ex : x = Int32.ofNat n) (hn : n ≤ 4) (hv : ∀ j, j < n → m (b + 15 + 7 * t) j = W (376 + 103 * t + (11 + j))) : RC (zm2 m (b + 14 + 7 * t) 5 x) b (upd W (376 + 103 * t + 10) x) := by
  have q := h.putG (j := 376 + 103 * t + 10) (x := x) (by omega) (by omega) (Or.inr (by omega)) hC (fun k hk hkj => ?_)
  · rw [cm_at ht (by omega), show cmT t 10 = (14 + 7 * t, 5) from rfl] at q
    dsimp only at q
    rw [show b + (14 + 7 * t) = b + 14 + 7 * t by omega] at q
    exact q
  · obtain ⟨a1, a2, a3⟩ := hk
    rcases a3 with a3 | ⟨a3, d1, d2, d3, d4, d5⟩
    · exact h.2 k ⟨a1, a2, Or.inl a3⟩
    · rw [nv_of (upd_ne _ _ (by omega))] at d1
      rw [upd_ne _ _ (by omega)] at d3
      rw [upd_ne _ _ (by omega)] at d4
      rw [nv_of (upd_ne _ _ (by omega))] at d5
      have old : (11 ≤ (k - 376) % 103 ∧ (k - 376) % 103 ≤ 14 → (k - 376) % 103 - 11 < nv W (376 + 103 * ((k - 376) / 103) + 10)) → m (b + (cm k).1) (cm k).2 = W k := fun z => h.2 k ⟨a1, a2, Or.inr ⟨a3, d1, z, d3, d4, d5⟩⟩
      by_cases hut : (k - 376) / 103 = t
      · by_cases hr : 11 ≤ (k - 376) % 103 ∧ (k - 376) % 103 ≤ 14
        · have d2' := d2 hr
          rw [hut] at d2'
          unfold nv at d2'
          rw [upd_at, ex, nv_on (by omega)] at d2'
          have ek : k = 376 + 103 * t + (11 + ((k - 376) % 103 - 11)) := by omega
          have hj : (k - 376) % 103 - 11 < 4 := by omega
          generalize (k - 376) % 103 - 11 = j at ek hj d2'
          rw [ek, cm_at ht (by omega), cmT_l hj]
          dsimp only
          rw [show b + (15 + 7 * t) = b + 15 + 7 * t by omega]
          exact hv j d2'
        · exact old (fun z => absurd z hr)
      · refine old (fun z => ?_)
        have d2' := d2 z
        rw [nv_of (upd_ne _ _ (by omega))] at d2'
        exact d2'
theorem RC.g1 {m : Nat → Nat → Int32} {b : Nat} {W : Nat → Int32} {t : Nat} (h : RC m b W) (hC : WC W) (ht : t < 4) (h18 : m (b + 14 + 7 * t) 1 = W (376 + 103 * t + 18)) (h19 : m (b + 14 + 7 * t) 2 = W (376 + 103 * t + 19)) (h20 : m (b + 14 + 7 * t) 3 = W (376 + 103 * t + 20)) : RC (zm2 m (b + 14 + 7 * t) 0 (Int32.ofNat 1)) b (upd W (376 + 103 * t + 2) (Int32.ofNat 1)) := by
  have q := h.putG (j := 376 + 103 * t + 2) (x := Int32.ofNat 1) (by omega) (by omega) (Or.inr (by omega)) hC (fun k hk hkj => ?_)
  · rw [cm_at ht (by omega), show cmT t 2 = (14 + 7 * t, 0) from rfl] at q
    dsimp only at q
    rw [show b + (14 + 7 * t) = b + 14 + 7 * t by omega] at q
    exact q
  · obtain ⟨a1, a2, a3⟩ := hk
    rcases a3 with a3 | ⟨a3, d1, d2, d3, d4, d5⟩
    · exact h.2 k ⟨a1, a2, Or.inl a3⟩
    · rw [nv_of (upd_ne _ _ (by omega))] at d1
      rw [nv_of (upd_ne _ _ (by omega))] at d2
      rw [upd_ne _ _ (by omega)] at d4
      rw [nv_of (upd_ne _ _ (by omega))] at d5
      have old : (18 ≤ (k - 376) % 103 ∧ (k - 376) % 103 ≤ 20 → W (376 + 103 * ((k - 376) / 103) + 2) = Int32.ofNat 1) → m (b + (cm k).1) (cm k).2 = W k := fun z => h.2 k ⟨a1, a2, Or.inr ⟨a3, d1, d2, z, d4, d5⟩⟩
      by_cases hut : (k - 376) / 103 = t
      · by_cases hr : 18 ≤ (k - 376) % 103 ∧ (k - 376) % 103 ≤ 20
        · have eb : b + (14 + 7 * t) = b + 14 + 7 * t := by omega
          by_cases c1 : (k - 376) % 103 = 18
          · have ek : k = 376 + 103 * t + 18 := by omega
            rw [ek, cm_at ht (by omega), show cmT t 18 = (14 + 7 * t, 1) from rfl]
            dsimp only
            rw [eb]
            exact h18
          · by_cases c2 : (k - 376) % 103 = 19
            · have ek : k = 376 + 103 * t + 19 := by omega
              rw [ek, cm_at ht (by omega), show cmT t 19 = (14 + 7 * t, 2) from rfl]
              dsimp only
              rw [eb]
              exact h19
            · have ek : k = 376 + 103 * t + 20 := by omega
              rw [ek, cm_at ht (by omega), show cmT t 20 = (14 + 7 * t, 3) from rfl]
              dsimp only
              rw [eb]
              exact h20
        · exact old (fun z => absurd z hr)
      · refine old (fun z => ?_)
        have d3' := d3 z
        rw [upd_ne _ _ (by omega)] at d3'
        exact d3'
theorem leaveOut_eq {m : Nat → Nat → Int32} {b t n : Nat} {l : Int32} (e : m (b + 14 + 7 * t) 5 = Int32.ofNat n) (hn : n < 4) : x_leaveOut m b t l = zm2 (zm2 m (b + 15 + 7 * t) n l) (b + 14 + 7 * t) 5 (Int32.ofNat (n + 1)) := by
  have em : mv m (b + 14 + 7 * t) 5 = n := by unfold mv; rw [e, nv_on (by omega)]
  unfold x_leaveOut
  rw [em, zcge_f (by omega) (by omega) hn, cond_false, zx_ne _ _ _ (by omega), e, i_add]
theorem leavesOut_rx {m : Nat → Nat → Int32} {b : Nat} {W : Nat → Int32} {t l : Nat} (h : RC m b W) (hx : WX W) (hc : CG m b) (ht : t < nv W 9) (hl : l < 4) (hA : AL W t) (hg : W (376 + 103 * t + 2) = Int32.ofNat 1) (hq : nv W (376 + 103 * t + 10) < 4) : RC (x_leaveOut m b t (Int32.ofNat l)) b (q_leavesOut W t l) ∧ WX (q_leavesOut W t l) ∧ CG (x_leaveOut m b t (Int32.ofNat l)) b := by
  have h4 := hx.W.N4
  have ht4 : t < 4 := by omega
  have q0 := (hx.W.2 t ht4).2.1.1
  have el := h.left ht4 ht
  have eM := leaveOut_eq (l := Int32.ofNat l) (el.trans q0) hq
  have r1 := h.thS (c := 11 + nv W (376 + 103 * t + 10)) (o := 15) (s := nv W (376 + 103 * t + 10)) (x := Int32.ofNat l) hx.W.C ht4 (by omega) (by omega) (cmT_l hq)
  have eW : q_leavesOut W t l = upd (upd W (376 + 103 * t + (11 + nv W (376 + 103 * t + 10))) (Int32.ofNat l)) (376 + 103 * t + 10) (Int32.ofNat (nv W (376 + 103 * t + 10) + 1)) := by
    unfold q_leavesOut
    rw [upd_ne (l := 376 + 103 * t + 10) _ _ (by omega), ← i_add, ← q0]
  have w := KG.leavesOut (l := l) ⟨hx.W, hA⟩ ht4 hl hq hg
  refine ⟨?_, ?_, hc.leaveOut ht4 hl⟩
  · rw [eM, eW]
    refine r1.q1 (n := nv W (376 + 103 * t + 10) + 1) (WC_of (upd_ne _ _ (by omega)) hx.W.C) ht4 rfl (by omega) (fun j hj => ?_)
    by_cases e : j = nv W (376 + 103 * t + 10)
    · rw [e, zx_at, upd_at]
    · rw [zx_nk _ _ e, upd_ne _ _ (by omega)]
      exact h.lo ht4 ht (by omega) (by omega)
  · refine hx.one ht4 w.1 (fun k hk => ?_) (fun u hu hut c hc => ?_) ?_
    · rw [eW, upd_ne _ _ (by omega), upd_ne _ _ (by omega)]
    · rw [eW, upd_ne _ _ (by omega), upd_ne _ _ (by omega)]
    · obtain ⟨a1, a2, a3⟩ := hx.T ht4
      refine ⟨fun q => ?_, fun _ => ?_, a3.of hx.W ht4 ?_ ?_ ?_ (fun p hp => ?_)⟩
      · rw [eW, upd_ne _ _ (by omega), upd_ne _ _ (by omega), hg] at q
        exact absurd q (by decide)
      · unfold nv
        rw [eW, upd_at, nv_on (by omega)]
        omega
      · rw [eW, upd_ne _ _ (by omega), upd_ne _ _ (by omega)]
      · rw [eW, upd_ne _ _ (by omega), upd_ne _ _ (by omega)]
      · rw [eW, upd_ne _ _ (by omega), upd_ne _ _ (by omega)]
      · rw [eW, upd_ne _ _ (by omega), upd_ne _ _ (by omega)]
theorem begun_rx {m : Nat → Nat → Int32} {b : Nat} {W : Nat → Int32} {t l : Nat} (h : RC m b W) (hx : WX W) (hc : CG m b) (ht : t < nv W 9) (hl : l < 4) (hA : AL W t) (hg : W (376 + 103 * t + 2) = Int32.ofNat 0) : RC (x_begunB m b t l) b (q_beginsGuess W t l) ∧ WX (q_beginsGuess W t l) ∧ CG (x_begunB m b t l) b := by
  have h4 := hx.W.N4
  have ht4 : t < 4 := by omega
  have q10 : W (376 + 103 * t + 10) = Int32.ofNat 0 := (hx.W.2 t ht4).2.2.2.2.2.2.1 hg
  have n10 : nv W (376 + 103 * t + 10) = 0 := by unfold nv; rw [q10, nv_on (by omega)]
  have e5 : m (b + 14 + 7 * t) 5 = Int32.ofNat 0 := (h.left ht4 ht).trans q10
  have e3 : m (b + 10 + 7 * t) 3 = W (376 + 103 * t + 0) := h.cellS ht4 (by omega) (cnd0 ht (by omega)) rfl
  have e4 : m (b + 10 + 7 * t) 4 = W (376 + 103 * t + 1) := h.cellS ht4 (by omega) (cnd0 ht (by omega)) rfl
  have e7 : m b 7 = W 11 := h.glob (k := 11) (by omega) (by omega)
  have el : m (b + 5 + l) 0 = W (16 + l) := h.lkR (k := 16 + l) (by omega) (by omega) (cm_16 hl)
  have C := hx.W.C
  -- the cells in an order in which all stays alike
  have s1 := h.thS (c := 18) (o := 14) (s := 1) (x := W (376 + 103 * t + 0)) C ht4 (by omega) (by omega) rfl
  have C1 := WC_of (V := upd W (376 + 103 * t + 18) (W (376 + 103 * t + 0))) (upd_ne _ _ (by omega)) C
  have s2 := s1.thS (c := 19) (o := 14) (s := 2) (x := W (376 + 103 * t + 1)) C1 ht4 (by omega) (by omega) rfl
  have C2 := WC_of (V := upd (upd W (376 + 103 * t + 18) (W (376 + 103 * t + 0))) (376 + 103 * t + 19) (W (376 + 103 * t + 1))) (upd_ne _ _ (by omega)) C1
  have s3 := s2.thS (c := 20) (o := 14) (s := 3) (x := W 11) C2 ht4 (by omega) (by omega) rfl
  have C3 := WC_of (V := upd (upd (upd W (376 + 103 * t + 18) (W (376 + 103 * t + 0))) (376 + 103 * t + 19) (W (376 + 103 * t + 1))) (376 + 103 * t + 20) (W 11)) (upd_ne _ _ (by omega)) C2
  have s4 := s3.thS (c := 11) (o := 15) (s := 0) (x := Int32.ofNat l) C3 ht4 (by omega) (by omega) rfl
  have C4 := WC_of (V := upd (upd (upd (upd W (376 + 103 * t + 18) (W (376 + 103 * t + 0))) (376 + 103 * t + 19) (W (376 + 103 * t + 1))) (376 + 103 * t + 20) (W 11)) (376 + 103 * t + 11) (Int32.ofNat l)) (upd_ne _ _ (by omega)) C3
  have s5 := s4.thS (c := 15) (o := 14) (s := 6) (x := q_blockOf W (W (16 + l))) C4 ht4 (by omega) (by omega) rfl
  have C5 := WC_of (V := upd (upd (upd (upd (upd W (376 + 103 * t + 18) (W (376 + 103 * t + 0))) (376 + 103 * t + 19) (W (376 + 103 * t + 1))) (376 + 103 * t + 20) (W 11)) (376 + 103 * t + 11) (Int32.ofNat l)) (376 + 103 * t + 15) (q_blockOf W (W (16 + l)))) (upd_ne _ _ (by omega)) C4
  have s6 := s5.q1 (t := t) (n := 1) (x := Int32.ofNat 1) C5 ht4 rfl (by omega) (fun j hj => by
    have : j = 0 := by omega
    subst this
    simp (disch := omega) only [zx_ne, zx_at, upd_ne, upd_at])
  have C6 := WC_of (V := upd (upd (upd (upd (upd (upd W (376 + 103 * t + 18) (W (376 + 103 * t + 0))) (376 + 103 * t + 19) (W (376 + 103 * t + 1))) (376 + 103 * t + 20) (W 11)) (376 + 103 * t + 11) (Int32.ofNat l)) (376 + 103 * t + 15) (q_blockOf W (W (16 + l)))) (376 + 103 * t + 10) (Int32.ofNat 1)) (upd_ne _ _ (by omega)) C5
  have s7 := s6.g1 (t := t) C6 ht4 (by simp (disch := omega) only [zx_ne, zx_nk, zx_at, upd_ne, upd_at]) (by simp (disch := omega) only [zx_ne, zx_nk, zx_at, upd_ne, upd_at]) (by simp (disch := omega) only [zx_ne, zx_nk, zx_at, upd_ne, upd_at])
  have C7 := WC_of (V := upd (upd (upd (upd (upd (upd (upd W (376 + 103 * t + 18) (W (376 + 103 * t + 0))) (376 + 103 * t + 19) (W (376 + 103 * t + 1))) (376 + 103 * t + 20) (W 11)) (376 + 103 * t + 11) (Int32.ofNat l)) (376 + 103 * t + 15) (q_blockOf W (W (16 + l)))) (376 + 103 * t + 10) (Int32.ofNat 1)) (376 + 103 * t + 2) (Int32.ofNat 1)) (upd_ne _ _ (by omega)) C6
  have w := KG.bg (x19 := W (376 + 103 * t + 1)) (x20 := W 11) (x15 := q_blockOf W (W (16 + l))) (l := l) ⟨hx.W, hA⟩ ht4 hl (by omega)
  have eW : q_leavesOut (upd (upd (upd (upd (upd W (376 + 103 * t + 2) (Int32.ofNat 1)) (376 + 103 * t + 18) (W (376 + 103 * t + 0))) (376 + 103 * t + 19) (W (376 + 103 * t + 1))) (376 + 103 * t + 20) (W 11)) (376 + 103 * t + 15) (q_blockOf W (W (16 + l)))) t l = upd (upd (upd (upd (upd (upd (upd W (376 + 103 * t + 18) (W (376 + 103 * t + 0))) (376 + 103 * t + 19) (W (376 + 103 * t + 1))) (376 + 103 * t + 20) (W 11)) (376 + 103 * t + 11) (Int32.ofNat l)) (376 + 103 * t + 15) (q_blockOf W (W (16 + l)))) (376 + 103 * t + 10) (Int32.ofNat 1)) (376 + 103 * t + 2) (Int32.ofNat 1) := by
    unfold q_leavesOut
    have e10 : nv (upd (upd (upd (upd (upd W (376 + 103 * t + 2) (Int32.ofNat 1)) (376 + 103 * t + 18) (W (376 + 103 * t + 0))) (376 + 103 * t + 19) (W (376 + 103 * t + 1))) (376 + 103 * t + 20) (W 11)) (376 + 103 * t + 15) (q_blockOf W (W (16 + l)))) (376 + 103 * t + 10) = 0 := by
      rw [← n10]
      apply nv_of
      simp (disch := omega) only [upd_ne]
    rw [e10]
    have z : Int32.ofNat 0 + Int32.ofNat 1 = Int32.ofNat 1 := by decide
    funext j
    by_cases c0 : j = 376 + 103 * t + 10
    · subst c0
      simp (disch := omega) only [upd_ne, upd_at, q10, z]
    · rw [upd_ne _ _ c0]
      by_cases c1 : j = 376 + 103 * t + 11
      · subst c1
        simp (disch := omega) only [upd_ne]
        rw [show 376 + 103 * t + (11 + 0) = 376 + 103 * t + 11 from rfl, upd_at, upd_at]
      · by_cases c2 : j = 376 + 103 * t + 2
        · subst c2
          simp (disch := omega) only [upd_ne, upd_at]
        · by_cases c3 : j = 376 + 103 * t + 18
          · subst c3
            simp (disch := omega) only [upd_ne, upd_at]
          · by_cases c4 : j = 376 + 103 * t + 19
            · subst c4
              simp (disch := omega) only [upd_ne, upd_at]
            · by_cases c5 : j = 376 + 103 * t + 20
              · subst c5
                simp (disch := omega) only [upd_ne, upd_at]
              · by_cases c6 : j = 376 + 103 * t + 15
                · subst c6
                  simp (disch := omega) only [upd_ne, upd_at]
                · simp (disch := omega) only [upd_ne]
  have eQ : q_beginsGuess W t l = q_logs (upd (upd (upd (upd (upd (upd (upd W (376 + 103 * t + 18) (W (376 + 103 * t + 0))) (376 + 103 * t + 19) (W (376 + 103 * t + 1))) (376 + 103 * t + 20) (W 11)) (376 + 103 * t + 11) (Int32.ofNat l)) (376 + 103 * t + 15) (q_blockOf W (W (16 + l)))) (376 + 103 * t + 10) (Int32.ofNat 1)) (376 + 103 * t + 2) (Int32.ofNat 1)) (Int32.ofNat t) (Int32.ofNat 0) (Int32.ofNat l) := by
    rw [← eW]
    unfold q_beginsGuess q_of q_blockOf
    simp (disch := omega) only [upd_ne]
  have eM : x_leaveOut (x_begin m b t (m (b + 10 + 7 * t) 3) (m (b + 10 + 7 * t) 4) (m b 7)) b t (Int32.ofNat l) = zm2 (zm2 (x_begin m b t (m (b + 10 + 7 * t) 3) (m (b + 10 + 7 * t) 4) (m b 7)) (b + 15 + 7 * t) 0 (Int32.ofNat l)) (b + 14 + 7 * t) 5 (Int32.ofNat 1) := by
    have q : x_begin m b t (m (b + 10 + 7 * t) 3) (m (b + 10 + 7 * t) 4) (m b 7) (b + 14 + 7 * t) 5 = Int32.ofNat 0 := by
      unfold x_begin
      simp (disch := omega) only [zx_nk]
      exact e5
    exact leaveOut_eq q (by omega)
  have eB : x_begunB m b t l = x_logAdd (zm2 (zm2 (zm2 (zm2 (zm2 (zm2 (zm2 m (b + 14 + 7 * t) 1 (W (376 + 103 * t + 0))) (b + 14 + 7 * t) 2 (W (376 + 103 * t + 1))) (b + 14 + 7 * t) 3 (W 11)) (b + 15 + 7 * t) 0 (Int32.ofNat l)) (b + 14 + 7 * t) 6 (q_blockOf W (W (16 + l)))) (b + 14 + 7 * t) 5 (Int32.ofNat 1)) (b + 14 + 7 * t) 0 (Int32.ofNat 1)) b (W 11) (Int32.ofNat t) (Int32.ofNat 0) (Int32.ofNat l) := by
    unfold x_begunB
    dsimp only
    rw [eM]
    have k1 : zm2 (zm2 (x_begin m b t (m (b + 10 + 7 * t) 3) (m (b + 10 + 7 * t) 4) (m b 7)) (b + 15 + 7 * t) 0 (Int32.ofNat l)) (b + 14 + 7 * t) 5 (Int32.ofNat 1) (b + 5 + l) 0 = W (16 + l) := by
      unfold x_begin
      simp (disch := omega) only [zx_ne]
      exact el
    have k2 : x_blockBit (zm2 (zm2 (x_begin m b t (m (b + 10 + 7 * t) 3) (m (b + 10 + 7 * t) 4) (m b 7)) (b + 15 + 7 * t) 0 (Int32.ofNat l)) (b + 14 + 7 * t) 5 (Int32.ofNat 1)) b (W (16 + l)) = q_blockOf W (W (16 + l)) := by
      rw [← block_eq h hx.W]
      unfold x_blockBit x_begin
      simp (disch := omega) only [zx_ne]
    rw [k1, k2, e3, e4, e7]
    have k3 : zm2 (zm2 (zm2 (x_begin m b t (W (376 + 103 * t + 0)) (W (376 + 103 * t + 1)) (W 11)) (b + 15 + 7 * t) 0 (Int32.ofNat l)) (b + 14 + 7 * t) 5 (Int32.ofNat 1)) (b + 14 + 7 * t) 6 (q_blockOf W (W (16 + l))) b 7 = W 11 := by
      unfold x_begin
      simp (disch := omega) only [zx_ne]
      exact e7
    rw [k3]
    congr 1
    funext i k
    unfold x_begin
    by_cases ca : i = b + 14 + 7 * t
    · subst ca
      by_cases c0 : k = 0
      · subst c0
        simp (disch := omega) only [zx_ne, zx_nk, zx_at]
      · by_cases c1 : k = 1
        · subst c1
          simp (disch := omega) only [zx_ne, zx_nk, zx_at]
        · by_cases c2 : k = 2
          · subst c2
            simp (disch := omega) only [zx_ne, zx_nk, zx_at]
          · by_cases c3 : k = 3
            · subst c3
              simp (disch := omega) only [zx_ne, zx_nk, zx_at]
            · by_cases c5 : k = 5
              · subst c5
                simp (disch := omega) only [zx_ne, zx_nk, zx_at]
              · by_cases c6 : k = 6
                · subst c6
                  simp (disch := omega) only [zx_ne, zx_nk, zx_at]
                · simp (disch := omega) only [zx_ne, zx_nk]
    · by_cases cb : i = b + 15 + 7 * t
      · subst cb
        by_cases c0 : k = 0
        · subst c0
          simp (disch := omega) only [zx_ne, zx_nk, zx_at]
        · simp (disch := omega) only [zx_ne, zx_nk]
      · simp (disch := omega) only [zx_ne]
  have hc7 : CG (x_begunB m b t l) b := ((((hc.begin ht4).leaveOut ht4 hl).put _ (ncG ht4 (by omega))).logAdd _ _ _ _)
  rw [eW] at w
  refine ⟨?_, ?_, hc7⟩
  · rw [eB, eQ]
    have g11 : upd (upd (upd (upd (upd (upd (upd W (376 + 103 * t + 18) (W (376 + 103 * t + 0))) (376 + 103 * t + 19) (W (376 + 103 * t + 1))) (376 + 103 * t + 20) (W 11)) (376 + 103 * t + 11) (Int32.ofNat l)) (376 + 103 * t + 15) (q_blockOf W (W (16 + l)))) (376 + 103 * t + 10) (Int32.ofNat 1)) (376 + 103 * t + 2) (Int32.ofNat 1) 11 = W 11 := by simp (disch := omega) only [upd_ne]
    have r := s7.log (t := Int32.ofNat t) (w := Int32.ofNat 0) (v := Int32.ofNat l) C7 (zxb (by simp (disch := omega) only [zx_ne]) hc.n60)
    rw [g11] at r
    exact r
  · rw [eQ]
    refine WX.logs ?_ _ _ _
    refine hx.one ht4 w.1 (fun k hk => ?_) (fun u hu hut c hc => ?_) ?_
    · simp (disch := omega) only [upd_ne]
    · simp (disch := omega) only [upd_ne]
    · obtain ⟨a1, a2, a3⟩ := hx.T ht4
      refine ⟨fun q => ?_, fun _ => ?_, a3.of hx.W ht4 ?_ ?_ ?_ (fun p hp => ?_)⟩
      · rw [upd_at] at q
        exact absurd q (by decide)
      · unfold nv
        rw [upd_ne _ _ (by omega), upd_at, nv_on (by omega)]
        omega
      · simp (disch := omega) only [upd_ne]
      · simp (disch := omega) only [upd_ne]
      · simp (disch := omega) only [upd_ne]
      · simp (disch := omega) only [upd_ne]
