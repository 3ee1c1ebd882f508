/-! writes alike -/
theorem RC.putG {m : Nat → Nat → Int32} {b : Nat} {W : Nat → Int32} {j : Nat} {x : Int32} (h : RC m b W) (hj : j < 788) (hj15 : j ≠ 15) (hj2 : j < 136 ∨ 376 ≤ j) (hC : WC W) (hcn : ∀ k, cnd (upd W j x) k → k ≠ j → m (b + (cm k).1) (cm k).2 = W k) : RC (zm2 m (b + (cm j).1) (cm j).2 x) b (upd W j x) := by
  have ho := cm_ne hj hj15 hj2
  obtain ⟨⟨h1, h2⟩, h3⟩ := h
  have e15 : nv (upd W j x) 15 = nv W 15 := nv_of (upd_ne _ _ (fun e => hj15 e.symm))
  have e2 : mv (zm2 m (b + (cm j).1) (cm j).2 x) (b + 40) 2 = mv m (b + 40) 2 := by
    unfold mv
    rw [zx_ne _ _ _ (by omega)]
  refine ⟨⟨by rw [zx_ne _ _ _ (by omega), upd_ne _ _ (fun e => hj15 e.symm)]; exact h1, fun a c ha hc => ?_⟩, fun k hk => ?_⟩
  · rw [e15] at ha
    have h60 := hC.2
    rw [e2, e15, zx_ne _ _ _ (by omega), h2 a c ha hc]
    rw [upd_ne _ _ (by omega)]
  · by_cases hkj : k = j
    · subst hkj
      rw [zx_at, upd_at]
    · rw [upd_ne _ _ hkj]
      have hne : ¬ (b + (cm k).1 = b + (cm j).1 ∧ (cm k).2 = (cm j).2) := by
        intro e
        exact hkj (cm_inj hk.1 hj (zprod2 (by omega) e.2))
      rw [zx_o _ _ hne]
      exact hcn k hk hkj
/-- a cell that all have in common -/
theorem RC.globS {m : Nat → Nat → Int32} {b : Nat} {W : Nat → Int32} {k o s : Nat} {x : Int32} (h : RC m b W) (hC : WC W) (hk : k < 136) (h9 : k ≠ 9) (h15 : k ≠ 15) (hm : cm k = (o, s)) : RC (zm2 m (b + o) s x) b (upd W k x) := by
  have q := h.putG (j := k) (x := x) (by omega) h15 (Or.inl hk) hC (fun j hj hjk => h.2 j (cnd_of (upd_ne _ _ (by omega)) (fun u hu => ⟨upd_ne _ _ (by omega), upd_ne _ _ (by omega), upd_ne _ _ (by omega), upd_ne _ _ (by omega)⟩) hj))
  rw [hm] at q
  exact q
theorem RC.globR {m : Nat → Nat → Int32} {b : Nat} {W : Nat → Int32} {k o s : Nat} (h : RC m b W) (hk : k < 136) (h15 : k ≠ 15) (hm : cm k = (o, s)) : m (b + o) s = W k := by
  have q := h.glob hk h15
  rw [hm] at q
  exact q
theorem cm_w {w : Nat} (hw : w < 32) : cm (32 + w) = (1, w) := by
  unfold cm
  rw [if_neg (by omega), if_neg (by omega), if_neg (by omega), if_neg (by omega), if_neg (by omega), if_neg (by omega), if_neg (by omega), if_neg (by omega), if_neg (by omega), if_pos (by omega), show 32 + w - 32 = w by omega]
theorem cmT_v {t w : Nat} (hw : w < 32) : cmT t (23 + w) = (16 + 7 * t, w) := by
  unfold cmT
  rw [if_neg (by omega), if_neg (by omega), if_neg (by omega), if_neg (by omega), if_neg (by omega), if_neg (by omega), if_neg (by omega), if_neg (by omega), if_neg (by omega), if_neg (by omega), if_neg (by omega), if_neg (by omega), if_neg (by omega), if_neg (by omega), if_pos (by omega), show 23 + w - 23 = w by omega]
theorem RC.has {m : Nat → Nat → Int32} {b : Nat} {W : Nat → Int32} {t w : Nat} (h : RC m b W) (hC : WC W) (ht : t < 4) (hw : w < 32) (hv : m (b + 16 + 7 * t) w = W (376 + 103 * t + (23 + w))) : RC (zm2 m (b + 14 + 7 * t) 9 (W (376 + 103 * t + 17) ||| (Int32.ofNat 1 <<< (Int32.ofNat w &&& 31)))) b (upd W (376 + 103 * t + 17) (W (376 + 103 * t + 17) ||| (Int32.ofNat 1 <<< (Int32.ofNat w &&& 31)))) := by
  have q := h.putG (j := 376 + 103 * t + 17) (x := W (376 + 103 * t + 17) ||| (Int32.ofNat 1 <<< (Int32.ofNat w &&& 31))) (by omega) (by omega) (Or.inr (by omega)) hC (fun k hk hkj => ?_)
  · rw [cm_at ht (by omega), show cmT t 17 = (14 + 7 * t, 9) from rfl] at q
    dsimp only at q
    rw [show b + (14 + 7 * t) = b + 14 + 7 * t by omega] at q
    exact q
  · obtain ⟨a1, a2, a3⟩ := hk
    rcases a3 with a3 | ⟨a3, d1, d2, d3, d4, d5⟩
    · exact h.2 k ⟨a1, a2, Or.inl a3⟩
    · rw [nv_of (upd_ne _ _ (by omega))] at d1
      rw [nv_of (upd_ne _ _ (by omega))] at d2
      rw [upd_ne _ _ (by omega)] at d3
      rw [nv_of (upd_ne _ _ (by omega))] at d5
      have hu4 : (k - 376) / 103 < 4 := by omega
      have old : (23 ≤ (k - 376) % 103 ∧ (k - 376) % 103 ≤ 54 → hbit (W (376 + 103 * ((k - 376) / 103) + 17)) ((k - 376) % 103 - 23)) → m (b + (cm k).1) (cm k).2 = W k := fun z => h.2 k ⟨a1, a2, Or.inr ⟨a3, d1, d2, d3, z, d5⟩⟩
      by_cases hut : (k - 376) / 103 = t
      · by_cases hr : 23 ≤ (k - 376) % 103 ∧ (k - 376) % 103 ≤ 54
        · have d4' := d4 hr
          rw [hut, upd_at] at d4'
          rcases hbit_or hw (by omega) d4' with e | e
          · have ek : k = 376 + 103 * t + (23 + w) := by omega
            rw [ek, cm_at ht (by omega), cmT_v hw]
            dsimp only
            rw [show b + (16 + 7 * t) = b + 16 + 7 * t by omega]
            exact hv
          · exact old (fun _ => by rw [hut]; exact e)
        · exact old (fun z => absurd z hr)
      · refine old (fun z => ?_)
        have d4' := d4 z
        rw [upd_ne _ _ (by omega)] at d4'
        exact d4'
theorem writesB_rx {m mm : Nat → Nat → Int32} {b : Nat} {W : Nat → Int32} {t w : Nat} {v x : Int32} (h : RC m b W) (hx : WX W) (hc : CG m b) (ht : t < nv W 9) (hw : w < 32) : RU b t mm W (x_reachB m b t w v x (Int32.ofNat 1) (x_isGuessing m b t)) (q_writesB mm W t w v x (W (376 + 103 * t + 2))) := by
  have h4 := hx.W.N4
  have ht4 : t < 4 := by omega
  have g0 := h.gs ht4 ht
  unfold q_writesB
  rcases clears_rx (mm := mm) (w := w) (v := v) (x := x) (r := Int32.ofNat 1) h hx hc ht with ⟨a1, a2, a3⟩ | ⟨m', W', a1, a2, a3, a4, a5, a6⟩
  · rw [a1, a2]
    dsimp only
    rw [zne0, cond_false]
    exact RU.fell h hx hc ht (by omega) a3
  · have e2 : W' (376 + 103 * t + 2) = W (376 + 103 * t + 2) := a6.2.2.2 ht4 2 (by omega)
    have n9 : nv W' 9 = nv W 9 := nv_of (a6.1 9 (by omega))
    rw [a1, a2]
    dsimp only
    rw [zn1, cond_true]
    unfold x_reachC x_isGuessing
    rw [g0]
    rcases hx.W.g01 ht4 with e | e
    · rw [e, zeq0, cond_true, cond_true, zeq0, cond_true, zeq1', cond_false]
      exact ⟨a3.globS a4.W.C (by omega) (by omega) (by omega) (cm_w hw), a4.glob (by omega) (by omega) (by omega), a5.put _ ncW, Or.inl ⟨rfl, rfl, rfl, (a6.w ht4).put (Or.inl (by omega))⟩⟩
    · rw [e, zeq1', cond_false, cond_false, zeq1', cond_false, cond_false]
      have eg : W' (376 + 103 * t + 2) = Int32.ofNat 1 := e2.trans e
      have r9 : m' (b + 14 + 7 * t) 9 = W' (376 + 103 * t + 17) := a3.cellS ht4 (by omega) (cnd0 (by omega) (by omega)) rfl
      have r7 : m' (b + 14 + 7 * t) 7 = W' (376 + 103 * t + 16) := a3.cellS ht4 (by omega) (cnd0 (by omega) (by omega)) rfl
      have C1 : WC (upd W' (376 + 103 * t + (23 + w)) v) := WC_of (upd_ne _ _ (by omega)) a4.W.C
      have s1 := a3.thS (c := 23 + w) (o := 16) (s := w) (x := v) a4.W.C ht4 (by omega) (by omega) (cmT_v hw)
      have s2 := s1.has (w := w) C1 ht4 hw (by rw [zx_at, upd_at])
      rw [upd_ne (l := 376 + 103 * t + 17) _ _ (by omega)] at s2
      have C2 : WC (upd (upd W' (376 + 103 * t + (23 + w)) v) (376 + 103 * t + 17) (W' (376 + 103 * t + 17) ||| (Int32.ofNat 1 <<< (Int32.ofNat w &&& 31)))) := WC_of (upd_ne _ _ (by omega)) C1
      have s3 := s2.thS (c := 16) (o := 14) (s := 7) (x := W' (376 + 103 * t + 16) ||| x) C2 ht4 (by omega) (by omega) rfl
      have eW : upd (upd (upd W' (376 + 103 * t + 16) (W' (376 + 103 * t + 16) ||| x)) (376 + 103 * t + 17) (upd W' (376 + 103 * t + 16) (W' (376 + 103 * t + 16) ||| x) (376 + 103 * t + 17) ||| (Int32.ofNat 1 <<< (Int32.ofNat w &&& 31)))) (376 + 103 * t + (23 + w)) v = upd (upd (upd W' (376 + 103 * t + (23 + w)) v) (376 + 103 * t + 17) (W' (376 + 103 * t + 17) ||| (Int32.ofNat 1 <<< (Int32.ofNat w &&& 31)))) (376 + 103 * t + 16) (W' (376 + 103 * t + 16) ||| x) := by
        funext j
        by_cases c1 : j = 376 + 103 * t + 16
        · subst c1
          simp (disch := omega) only [upd_at, upd_ne]
        · by_cases c2 : j = 376 + 103 * t + 17
          · subst c2
            simp (disch := omega) only [upd_at, upd_ne]
          · by_cases c3 : j = 376 + 103 * t + (23 + w)
            · subst c3
              simp (disch := omega) only [upd_at, upd_ne]
            · rw [upd_ne _ _ c3, upd_ne _ _ c2, upd_ne _ _ c1, upd_ne _ _ c1, upd_ne _ _ c2, upd_ne _ _ c3]
      have eM : x_gwrite m' b t w v x = zm2 (zm2 (zm2 m' (b + 16 + 7 * t) w v) (b + 14 + 7 * t) 9 (W' (376 + 103 * t + 17) ||| (Int32.ofNat 1 <<< (Int32.ofNat w &&& 31)))) (b + 14 + 7 * t) 7 (W' (376 + 103 * t + 16) ||| x) := by
        unfold x_gwrite
        rw [zx_nk (k := 9) (l := 7) _ _ (by omega), zx_ne (a := b + 16 + 7 * t) (i := b + 14 + 7 * t) _ _ _ (by omega), zx_ne (a := b + 16 + 7 * t) (i := b + 14 + 7 * t) _ _ _ (by omega), r9, r7]
      rw [eM, eW]
      have x1 : WX (upd W' (376 + 103 * t + (23 + w)) v) := a4.th ht4 (by omega) (by unfold cT; omega)
      have x2 : WX (upd (upd W' (376 + 103 * t + (23 + w)) v) (376 + 103 * t + 17) (W' (376 + 103 * t + 17) ||| (Int32.ofNat 1 <<< (Int32.ofNat w &&& 31)))) := x1.set ht4 (by omega) (by rw [upd_ne _ _ (by omega)]; exact eg)
      refine ⟨s3, x2.set ht4 (by omega) (by rw [upd_ne _ _ (by omega), upd_ne _ _ (by omega)]; exact eg), ((a5.put _ (ncV ht4)).put _ (ncG ht4 (by omega))).put _ (ncG ht4 (by omega)), Or.inl ⟨rfl, rfl, rfl, (((a6.w ht4).put (Or.inr ⟨23 + w, rfl, by omega⟩)).put (Or.inr ⟨17, rfl, by omega⟩)).put (Or.inr ⟨16, rfl, by omega⟩)⟩⟩
theorem writes_rx {m mm : Nat → Nat → Int32} {b : Nat} {W : Nat → Int32} {t w : Nat} {v : Int32} (h : RC m b W) (hx : WX W) (hc : CG m b) (ht : t < nv W 9) (hw : w < 32) (hv : ¬ v = -1) : RU b t mm W (x_reach m b t w v) (q_writes mm W t w v) := by
  have h4 := hx.W.N4
  have ht4 : t < 4 := by omega
  have g0 := h.gs ht4 ht
  have hB := writesB_rx (mm := mm) (v := v) (x := q_blockOf W (Int32.ofNat w)) h hx hc ht hw
  have g7 : m (b + 14 + 7 * t) 7 = W (376 + 103 * t + 16) := h.cellS ht4 (by omega) (cnd0 ht (by omega)) rfl
  have g3 : m (b + 3) 3 = W 3 := h.glob (k := 3) (by omega) (by omega)
  unfold x_reach q_writes
  rw [show zc2 .eq v (-1) = false from decide_eq_false hv, cond_false, block_eq h hx.W]
  rcases hx.W.g01 ht4 with e | e
  · have q : zc2 .ne (q_of W t 2) (Int32.ofNat 1) = true := decide_eq_true (by show ¬ W (376 + 103 * t + 2) = Int32.ofNat 1; rw [e]; decide)
    have hi : x_isGuessing m b t = Int32.ofNat 0 := by
      unfold x_isGuessing
      rw [g0, e, zeq0]
      rfl
    rw [e] at hB
    rw [q, cond_true]
    rw [hi] at hB ⊢
    rw [zeq0, cond_true]
    exact hB
  · have q : zc2 .ne (q_of W t 2) (Int32.ofNat 1) = false := decide_eq_false (fun z => z e)
    have hi : x_isGuessing m b t = Int32.ofNat 1 := by
      unfold x_isGuessing
      rw [g0, e, zeq1']
      rfl
    rw [e] at hB
    rw [q, cond_false]
    rw [hi] at hB ⊢
    rw [zeq1', cond_false]
    have q16 : q_of W t 16 = W (376 + 103 * t + 16) := rfl
    unfold x_isFull
    rw [g7, g3, bitCount_eq, q16]
    cases zc1 .ne (W (376 + 103 * t + 16) &&& q_blockOf W (Int32.ofNat w)) with
    | true =>
      rw [cond_true, cond_true, zeq0, cond_true]
      exact hB
    | false =>
      rw [cond_false, cond_false]
      cases zc2 .lt (q_bits (W (376 + 103 * t + 16))) (W 3) with
      | true =>
        rw [cond_true, cond_true, zeq0, cond_true]
        exact hB
      | false =>
        rw [cond_false, cond_false, zeq1', cond_false]
        exact RU.fell h hx hc ht (by omega) e
