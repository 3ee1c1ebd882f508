/-! e7.write e8.take e9.take2 ea.take3 eb.drop ec.step ed.whole ee.steps ef.vals -/
section
/-! writes alike -/
theorem RC.putG {m : Nat → Nat → Int32} {b : Nat} {W : Nat → Int32} {j : Nat} {x : Int32} (h : RC m b W) (hj : j < 788) (hj15 : j ≠ 15) (hj2 : j < 136 ∨ 376 ≤ j) (hC : WC W) (hcn : ∀ k, cnd (upd W j x) k → k ≠ j → m (b + (cm k).1) (cm k).2 = W k) : RC (zm2 m (b + (cm j).1) (cm j).2 x) b (upd W j x) := by
  have ho := cm_ne hj hj15 hj2
  obtain ⟨⟨h1, h2⟩, h3⟩ := h
  have e15 : nv (upd W j x) 15 = nv W 15 := nv_of (upd_ne _ _ (fun e => hj15 e.symm))
  have e2 : mv (zm2 m (b + (cm j).1) (cm j).2 x) (b + 40) 2 = mv m (b + 40) 2 := by
    unfold mv
    rw [zx_ne _ _ _ (by omega)]
  refine ⟨⟨by rw [zx_ne _ _ _ (by omega), upd_ne _ _ (fun e => hj15 e.symm)]; exact h1, fun a c ha hc => ?_⟩, fun k hk => ?_⟩
  · rw [e15] at ha
    have h60 := hC.2
    rw [e2, e15, zx_ne _ _ _ (by omega), h2 a c ha hc]
    rw [upd_ne _ _ (by omega)]
  · by_cases hkj : k = j
    · subst hkj
      rw [zx_at, upd_at]
    · rw [upd_ne _ _ hkj]
      have hne : ¬ (b + (cm k).1 = b + (cm j).1 ∧ (cm k).2 = (cm j).2) := by
        intro e
        exact hkj (cm_inj hk.1 hj (zprod2 (by omega) e.2))
      rw [zx_o _ _ hne]
      exact hcn k hk hkj
/-- a cell that all have in common -/
theorem RC.globS {m : Nat → Nat → Int32} {b : Nat} {W : Nat → Int32} {k o s : Nat} {x : Int32} (h : RC m b W) (hC : WC W) (hk : k < 136) (h9 : k ≠ 9) (h15 : k ≠ 15) (hm : cm k = (o, s)) : RC (zm2 m (b + o) s x) b (upd W k x) := by
  have q := h.putG (j := k) (x := x) (by omega) h15 (Or.inl hk) hC (fun j hj hjk => h.2 j (cnd_of (upd_ne _ _ (by omega)) (fun u hu => ⟨upd_ne _ _ (by omega), upd_ne _ _ (by omega), upd_ne _ _ (by omega), upd_ne _ _ (by omega)⟩) hj))
  rw [hm] at q
  exact q
theorem RC.globR {m : Nat → Nat → Int32} {b : Nat} {W : Nat → Int32} {k o s : Nat} (h : RC m b W) (hk : k < 136) (h15 : k ≠ 15) (hm : cm k = (o, s)) : m (b + o) s = W k := by
  have q := h.glob hk h15
  rw [hm] at q
  exact q
theorem cm_w {w : Nat} (hw : w < 32) : cm (32 + w) = (1, w) := by
  unfold cm
  rw [if_neg (by omega), if_neg (by omega), if_neg (by omega), if_neg (by omega), if_neg (by omega), if_neg (by omega), if_neg (by omega), if_neg (by omega), if_neg (by omega), if_pos (by omega), show 32 + w - 32 = w by omega]
theorem cmT_v {t w : Nat} (hw : w < 32) : cmT t (23 + w) = (16 + 7 * t, w) := by
  unfold cmT
  rw [if_neg (by omega), if_neg (by omega), if_neg (by omega), if_neg (by omega), if_neg (by omega), if_neg (by omega), if_neg (by omega), if_neg (by omega), if_neg (by omega), if_neg (by omega), if_neg (by omega), if_neg (by omega), if_neg (by omega), if_neg (by omega), if_pos (by omega), show 23 + w - 23 = w by omega]
theorem RC.has {m : Nat → Nat → Int32} {b : Nat} {W : Nat → Int32} {t w : Nat} (h : RC m b W) (hC : WC W) (ht : t < 4) (hw : w < 32) (hv : m (b + 16 + 7 * t) w = W (376 + 103 * t + (23 + w))) : RC (zm2 m (b + 14 + 7 * t) 9 (W (376 + 103 * t + 17) ||| (Int32.ofNat 1 <<< (Int32.ofNat w &&& 31)))) b (upd W (376 + 103 * t + 17) (W (376 + 103 * t + 17) ||| (Int32.ofNat 1 <<< (Int32.ofNat w &&& 31)))) := by
  have q := h.putG (j := 376 + 103 * t + 17) (x := W (376 + 103 * t + 17) ||| (Int32.ofNat 1 <<< (Int32.ofNat w &&& 31))) (by omega) (by omega) (Or.inr (by omega)) hC (fun k hk hkj => ?_)
  · rw [cm_at ht (by omega), show cmT t 17 = (14 + 7 * t, 9) from rfl] at q
    dsimp only at q
    rw [show b + (14 + 7 * t) = b + 14 + 7 * t by omega] at q
    exact q
  · obtain ⟨a1, a2, a3⟩ := hk
    rcases a3 with a3 | ⟨a3, d1, d2, d3, d4, d5⟩
    · exact h.2 k ⟨a1, a2, Or.inl a3⟩
    · rw [nv_of (upd_ne _ _ (by omega))] at d1
      rw [nv_of (upd_ne _ _ (by omega))] at d2
      rw [upd_ne _ _ (by omega)] at d3
      rw [nv_of (upd_ne _ _ (by omega))] at d5
      have hu4 : (k - 376) / 103 < 4 := by omega
      have old : (23 ≤ (k - 376) % 103 ∧ (k - 376) % 103 ≤ 54 → hbit (W (376 + 103 * ((k - 376) / 103) + 17)) ((k - 376) % 103 - 23)) → m (b + (cm k).1) (cm k).2 = W k := fun z => h.2 k ⟨a1, a2, Or.inr ⟨a3, d1, d2, d3, z, d5⟩⟩
      by_cases hut : (k - 376) / 103 = t
      · by_cases hr : 23 ≤ (k - 376) % 103 ∧ (k - 376) % 103 ≤ 54
        · have d4' := d4 hr
          rw [hut, upd_at] at d4'
          rcases hbit_or hw (by omega) d4' with e | e
          · have ek : k = 376 + 103 * t + (23 + w) := by omega
            rw [ek, cm_at ht (by omega), cmT_v hw]
            dsimp only
            rw [show b + (16 + 7 * t) = b + 16 + 7 * t by omega]
            exact hv
          · exact old (fun _ => by rw [hut]; exact e)
        · exact old (fun z => absurd z hr)
      · refine old (fun z => ?_)
        have d4' := d4 z
        rw [upd_ne _ _ (by omega)] at d4'
        exact d4'
theorem writesB_rx {m mm : Nat → Nat → Int32} {b : Nat} {W : Nat → Int32} {t w : Nat} {v x : Int32} (h : RC m b W) (hx : WX W) (hc : CG m b) (ht : t < nv W 9) (hw : w < 32) : RU b t mm W (x_reachB m b t w v x (Int32.ofNat 1) (x_isGuessing m b t)) (q_writesB mm W t w v x (W (376 + 103 * t + 2))) := by
  have h4 := hx.W.N4
  have ht4 : t < 4 := by omega
  have g0 := h.gs ht4 ht
  unfold q_writesB
  rcases clears_rx (mm := mm) (w := w) (v := v) (x := x) (r := Int32.ofNat 1) h hx hc ht with ⟨a1, a2, a3⟩ | ⟨m', W', a1, a2, a3, a4, a5, a6⟩
  · rw [a1, a2]
    dsimp only
    rw [zne0, cond_false]
    exact RU.fell h hx hc ht (by omega) a3
  · have e2 : W' (376 + 103 * t + 2) = W (376 + 103 * t + 2) := a6.2.2.2 ht4 2 (by omega)
    have n9 : nv W' 9 = nv W 9 := nv_of (a6.1 9 (by omega))
    rw [a1, a2]
    dsimp only
    rw [zn1, cond_true]
    unfold x_reachC x_isGuessing
    rw [g0]
    rcases hx.W.g01 ht4 with e | e
    · rw [e, zeq0, cond_true, cond_true, zeq0, cond_true, zeq1', cond_false]
      exact ⟨a3.globS a4.W.C (by omega) (by omega) (by omega) (cm_w hw), a4.glob (by omega) (by omega) (by omega), a5.put _ ncW, Or.inl ⟨rfl, rfl, rfl, (a6.w ht4).put (Or.inl (by omega))⟩⟩
    · rw [e, zeq1', cond_false, cond_false, zeq1', cond_false, cond_false]
      have eg : W' (376 + 103 * t + 2) = Int32.ofNat 1 := e2.trans e
      have r9 : m' (b + 14 + 7 * t) 9 = W' (376 + 103 * t + 17) := a3.cellS ht4 (by omega) (cnd0 (by omega) (by omega)) rfl
      have r7 : m' (b + 14 + 7 * t) 7 = W' (376 + 103 * t + 16) := a3.cellS ht4 (by omega) (cnd0 (by omega) (by omega)) rfl
      have C1 : WC (upd W' (376 + 103 * t + (23 + w)) v) := WC_of (upd_ne _ _ (by omega)) a4.W.C
      have s1 := a3.thS (c := 23 + w) (o := 16) (s := w) (x := v) a4.W.C ht4 (by omega) (by omega) (cmT_v hw)
      have s2 := s1.has (w := w) C1 ht4 hw (by rw [zx_at, upd_at])
      rw [upd_ne (l := 376 + 103 * t + 17) _ _ (by omega)] at s2
      have C2 : WC (upd (upd W' (376 + 103 * t + (23 + w)) v) (376 + 103 * t + 17) (W' (376 + 103 * t + 17) ||| (Int32.ofNat 1 <<< (Int32.ofNat w &&& 31)))) := WC_of (upd_ne _ _ (by omega)) C1
      have s3 := s2.thS (c := 16) (o := 14) (s := 7) (x := W' (376 + 103 * t + 16) ||| x) C2 ht4 (by omega) (by omega) rfl
      have eW : upd (upd (upd W' (376 + 103 * t + 16) (W' (376 + 103 * t + 16) ||| x)) (376 + 103 * t + 17) (upd W' (376 + 103 * t + 16) (W' (376 + 103 * t + 16) ||| x) (376 + 103 * t + 17) ||| (Int32.ofNat 1 <<< (Int32.ofNat w &&& 31)))) (376 + 103 * t + (23 + w)) v = upd (upd (upd W' (376 + 103 * t + (23 + w)) v) (376 + 103 * t + 17) (W' (376 + 103 * t + 17) ||| (Int32.ofNat 1 <<< (Int32.ofNat w &&& 31)))) (376 + 103 * t + 16) (W' (376 + 103 * t + 16) ||| x) := by
        funext j
        by_cases c1 : j = 376 + 103 * t + 16
        · subst c1
          simp (disch := omega) only [upd_at, upd_ne]
        · by_cases c2 : j = 376 + 103 * t + 17
          · subst c2
            simp (disch := omega) only [upd_at, upd_ne]
          · by_cases c3 : j = 376 + 103 * t + (23 + w)
            · subst c3
              simp (disch := omega) only [upd_at, upd_ne]
            · rw [upd_ne _ _ c3, upd_ne _ _ c2, upd_ne _ _ c1, upd_ne _ _ c1, upd_ne _ _ c2, upd_ne _ _ c3]
      have eM : x_gwrite m' b t w v x = zm2 (zm2 (zm2 m' (b + 16 + 7 * t) w v) (b + 14 + 7 * t) 9 (W' (376 + 103 * t + 17) ||| (Int32.ofNat 1 <<< (Int32.ofNat w &&& 31)))) (b + 14 + 7 * t) 7 (W' (376 + 103 * t + 16) ||| x) := by
        unfold x_gwrite
        rw [zx_nk (k := 9) (l := 7) _ _ (by omega), zx_ne (a := b + 16 + 7 * t) (i := b + 14 + 7 * t) _ _ _ (by omega), zx_ne (a := b + 16 + 7 * t) (i := b + 14 + 7 * t) _ _ _ (by omega), r9, r7]
      rw [eM, eW]
      have x1 : WX (upd W' (376 + 103 * t + (23 + w)) v) := a4.th ht4 (by omega) (by unfold cT; omega)
      have x2 : WX (upd (upd W' (376 + 103 * t + (23 + w)) v) (376 + 103 * t + 17) (W' (376 + 103 * t + 17) ||| (Int32.ofNat 1 <<< (Int32.ofNat w &&& 31)))) := x1.set ht4 (by omega) (by rw [upd_ne _ _ (by omega)]; exact eg)
      refine ⟨s3, x2.set ht4 (by omega) (by rw [upd_ne _ _ (by omega), upd_ne _ _ (by omega)]; exact eg), ((a5.put _ (ncV ht4)).put _ (ncG ht4 (by omega))).put _ (ncG ht4 (by omega)), Or.inl ⟨rfl, rfl, rfl, (((a6.w ht4).put (Or.inr ⟨23 + w, rfl, by omega⟩)).put (Or.inr ⟨17, rfl, by omega⟩)).put (Or.inr ⟨16, rfl, by omega⟩)⟩⟩
theorem writes_rx {m mm : Nat → Nat → Int32} {b : Nat} {W : Nat → Int32} {t w : Nat} {v : Int32} (h : RC m b W) (hx : WX W) (hc : CG m b) (ht : t < nv W 9) (hw : w < 32) (hv : ¬ v = -1) : RU b t mm W (x_reach m b t w v) (q_writes mm W t w v) := by
  have h4 := hx.W.N4
  have ht4 : t < 4 := by omega
  have g0 := h.gs ht4 ht
  have hB := writesB_rx (mm := mm) (v := v) (x := q_blockOf W (Int32.ofNat w)) h hx hc ht hw
  have g7 : m (b + 14 + 7 * t) 7 = W (376 + 103 * t + 16) := h.cellS ht4 (by omega) (cnd0 ht (by omega)) rfl
  have g3 : m (b + 3) 3 = W 3 := h.glob (k := 3) (by omega) (by omega)
  unfold x_reach q_writes
  rw [show zc2 .eq v (-1) = false from decide_eq_false hv, cond_false, block_eq h hx.W]
  rcases hx.W.g01 ht4 with e | e
  · have q : zc2 .ne (q_of W t 2) (Int32.ofNat 1) = true := decide_eq_true (by show ¬ W (376 + 103 * t + 2) = Int32.ofNat 1; rw [e]; decide)
    have hi : x_isGuessing m b t = Int32.ofNat 0 := by
      unfold x_isGuessing
      rw [g0, e, zeq0]
      rfl
    rw [e] at hB
    rw [q, cond_true]
    rw [hi] at hB ⊢
    rw [zeq0, cond_true]
    exact hB
  · have q : zc2 .ne (q_of W t 2) (Int32.ofNat 1) = false := decide_eq_false (fun z => z e)
    have hi : x_isGuessing m b t = Int32.ofNat 1 := by
      unfold x_isGuessing
      rw [g0, e, zeq1']
      rfl
    rw [e] at hB
    rw [q, cond_false]
    rw [hi] at hB ⊢
    rw [zeq1', cond_false]
    have q16 : q_of W t 16 = W (376 + 103 * t + 16) := rfl
    unfold x_isFull
    rw [g7, g3, bitCount_eq, q16]
    cases zc1 .ne (W (376 + 103 * t + 16) &&& q_blockOf W (Int32.ofNat w)) with
    | true =>
      rw [cond_true, cond_true, zeq0, cond_true]
      exact hB
    | false =>
      rw [cond_false, cond_false]
      cases zc2 .lt (q_bits (W (376 + 103 * t + 16))) (W 3) with
      | true =>
        rw [cond_true, cond_true, zeq0, cond_true]
        exact hB
      | false =>
        rw [cond_false, cond_false, zeq1', cond_false]
        exact RU.fell h hx hc ht (by omega) e
end
section
/-! takes alike -/
theorem cm_20 {l : Nat} (hl : l < 4) : cm (20 + l) = (5 + l, 1) := lt4 (P := fun l => cm (20 + l) = (5 + l, 1)) rfl rfl rfl rfl hl
theorem cm_16 {l : Nat} (hl : l < 4) : cm (16 + l) = (5 + l, 0) := lt4 (P := fun l => cm (16 + l) = (5 + l, 0)) rfl rfl rfl rfl hl
theorem cm_24 {l : Nat} (hl : l < 4) : cm (24 + l) = (5 + l, 2) := lt4 (P := fun l => cm (24 + l) = (5 + l, 2)) rfl rfl rfl rfl hl
theorem cm_28 {l : Nat} (hl : l < 4) : cm (28 + l) = (5 + l, 3) := lt4 (P := fun l => cm (28 + l) = (5 + l, 3)) rfl rfl rfl rfl hl
theorem RC.lkR {m : Nat → Nat → Int32} {b : Nat} {W : Nat → Int32} {l k s : Nat} (h : RC m b W) (hk : k < 136) (h15 : k ≠ 15) (hm : cm k = (5 + l, s)) : m (b + 5 + l) s = W k := by
  have q := h.globR hk h15 hm
  rw [← Nat.add_assoc] at q
  exact q
theorem RC.lkS {m : Nat → Nat → Int32} {b : Nat} {W : Nat → Int32} {l k s : Nat} {x : Int32} (h : RC m b W) (hC : WC W) (hk : k < 136) (h9 : k ≠ 9) (h15 : k ≠ 15) (hm : cm k = (5 + l, s)) : RC (zm2 m (b + 5 + l) s x) b (upd W k x) := by
  have q := h.globS (x := x) hC hk h9 h15 hm
  rw [← Nat.add_assoc] at q
  exact q
theorem RC.lw {m : Nat → Nat → Int32} {b : Nat} {W : Nat → Int32} {l : Nat} (h : RC m b W) (hl : l < 4) : mv m (b + 5 + l) 0 = nv W (16 + l) := by
  unfold mv nv
  rw [h.lkR (k := 16 + l) (by omega) (by omega) (cm_16 hl)]
theorem seen_eq {m : Nat → Nat → Int32} {b : Nat} {W : Nat → Int32} {t w : Nat} (h : RC m b W) (hx : WX W) (ht : t < nv W 9) (hw : w < 32) : x_seenBy m b t w = q_seen W t w := by
  have h4 := hx.W.N4
  have ht4 : t < 4 := by omega
  have g0 := h.gs ht4 ht
  have g1 : m (b + 1) w = W (32 + w) := h.globR (by omega) (by omega) (cm_w hw)
  have g9 : m (b + 14 + 7 * t) 9 = W (376 + 103 * t + 17) := h.cellS ht4 (by omega) (cnd0 ht (by omega)) rfl
  have q17 : q_of W t 17 = W (376 + 103 * t + 17) := rfl
  unfold x_seenBy q_seen x_hasValue
  rw [g0, g1, g9, bit_eq, q17]
  rcases hx.W.g01 ht4 with e | e
  · obtain ⟨-, -, z⟩ := hx.G t ht4 e
    have zz : zc1 .eq (q_holds (Int32.ofNat 0) w) = true := by
      rw [rb_k hw, rb_zero w hw]
      rfl
    rw [e, zeq0, cond_true, z, zz, cond_true]
  · rw [e, zeq1', cond_false]
    cases hb : zc1 .eq (q_holds (W (376 + 103 * t + 17)) w) with
    | true =>
      rw [cond_true, zeq0, cond_true, cond_true]
    | false =>
      rw [cond_false, zeq1', cond_false, cond_false]
      rw [rb_k hw] at hb
      have hh : hbit (W (376 + 103 * t + 17)) w := (hbit_rb hw).mpr (by
        cases hr : rbt (W (376 + 103 * t + 17)) w with
        | true => rfl
        | false => rw [hr] at hb; exact absurd hb (by decide))
      exact h.cellS (c := 23 + w) ht4 (by omega) ⟨ht, fun q => by omega, fun q => by omega, fun _ => by rw [show 23 + w - 23 = w by omega]; exact hh, fun q => by omega⟩ (cmT_v hw)
theorem cmT_l {t k : Nat} (hk : k < 4) : cmT t (11 + k) = (15 + 7 * t, k) := lt4 (P := fun k => cmT t (11 + k) = (15 + 7 * t, k)) rfl rfl rfl rfl hk
theorem RC.lo {m : Nat → Nat → Int32} {b : Nat} {W : Nat → Int32} {t k : Nat} (h : RC m b W) (ht4 : t < 4) (ht : t < nv W 9) (hk4 : k < 4) (hk : k < nv W (376 + 103 * t + 10)) : m (b + 15 + 7 * t) k = W (376 + 103 * t + (11 + k)) :=
  h.cellS (c := 11 + k) ht4 (by omega) ⟨ht, fun _ => by omega, fun q => by omega, fun q => by omega, fun q => by omega⟩ (cmT_l hk4)
theorem RC.left {m : Nat → Nat → Int32} {b : Nat} {W : Nat → Int32} {t : Nat} (h : RC m b W) (ht4 : t < 4) (ht : t < nv W 9) : m (b + 14 + 7 * t) 5 = W (376 + 103 * t + 10) := h.cellS ht4 (by omega) (cnd0 ht (by omega)) rfl
/-- where a lock is left out: first and last -/
noncomputable def yl (f : Nat → Bool) : Nat → Nat → Int32
  | 0, _ => Int32.ofNat 0
  | n + 1, k => bif f k then yl f n (k + 1) else Int32.ofNat 1
noncomputable def yp (f : Nat → Bool) : Nat → Int32 → Nat → Int32
  | 0, p, _ => p
  | n + 1, p, k => bif f k then yp f n p (k + 1) else yp f n (Int32.ofNat k) (k + 1)
theorem yy_4 (f : Nat → Bool) {q : Nat} (hq : q ≤ 4) : zc1 .eq (yl f q 0) = zc2 .eq (yp f q (-1) 0) (-1) ∧ (1 ≤ q → zc2 .eq (yp f q (-1) 0) (Int32.ofNat q - Int32.ofNat 1) = !(f (q - 1))) ∧ (q = 1 → zc2 .eq (yp f q (-1) 0) (-1) = false → yp f q (-1) 0 = Int32.ofNat 0) := by
  match q, hq with
  | 0, _ => exact ⟨by simp only [yl, yp]; decide, fun h => absurd h (by omega), fun h => absurd h (by omega)⟩
  | 1, _ =>
    simp only [yl, yp]
    show _ ∧ (_ → _ = !(f 0)) ∧ _
    generalize f 0 = a
    revert a
    decide +kernel
  | 2, _ =>
    simp only [yl, yp]
    show _ ∧ (_ → _ = !(f (0 + 1))) ∧ _
    generalize f 0 = a; generalize f (0 + 1) = c
    revert a c
    decide +kernel
  | 3, _ =>
    simp only [yl, yp]
    show _ ∧ (_ → _ = !(f (0 + 1 + 1))) ∧ _
    generalize f 0 = a; generalize f (0 + 1) = c; generalize f (0 + 1 + 1) = d
    revert a c d
    decide +kernel
  | 4, _ =>
    simp only [yl, yp]
    show _ ∧ (_ → _ = !(f (0 + 1 + 1 + 1))) ∧ _
    generalize f 0 = a; generalize f (0 + 1) = c; generalize f (0 + 1 + 1) = d; generalize f (0 + 1 + 1 + 1) = e
    revert a c d e
    decide +kernel
theorem yl_eq {m : Nat → Nat → Int32} {b : Nat} {W : Nat → Int32} {t : Nat} {l : Int32} (h : RC m b W) (ht4 : t < 4) (ht : t < nv W 9) (hq : nv W (376 + 103 * t + 10) ≤ 4) : ∀ (n k : Nat), k + n = nv W (376 + 103 * t + 10) → xl_leavesOut m b t l n k = yl (fun k => zc2 .ne (W (376 + 103 * t + (11 + k))) l) n k := by
  intro n
  induction n with
  | zero => intro k _; rfl
  | succ n ih =>
    intro k hk
    rw [xl_leavesOut, yl, ih _ (by omega), h.lo ht4 ht (by omega) (by omega)]
theorem yp_eq {W : Nat → Int32} {t : Nat} {l : Int32} : ∀ (n : Nat) (p : Int32) (k : Nat), l_placeLeft W t l n p k = yp (fun k => zc2 .ne (W (376 + 103 * t + (11 + k))) l) n p k := by
  intro n
  induction n with
  | zero => intro p k; rfl
  | succ n ih =>
    intro p k
    rw [l_placeLeft, yp, ih, ih]
    rfl
/-- left out at all; left out last; left out alone -/
theorem place_rx {m : Nat → Nat → Int32} {b : Nat} {W : Nat → Int32} {t : Nat} {l : Int32} (h : RC m b W) (hx : WX W) (ht : t < nv W 9) : zc1 .eq (x_leavesOut m b t l) = zc2 .eq (q_placeLeft W t l) (-1) ∧ (1 ≤ nv W (376 + 103 * t + 10) → zc2 .eq (q_placeLeft W t l) (q_of W t 10 - Int32.ofNat 1) = zc2 .eq (x_latest m b t) l) ∧ (nv W (376 + 103 * t + 10) = 1 → zc2 .eq (q_placeLeft W t l) (-1) = false → q_placeLeft W t l = Int32.ofNat 0) := by
  have h4 := hx.W.N4
  have ht4 : t < 4 := by omega
  obtain ⟨q1, q2, q3⟩ := (hx.W.2 t ht4).2.1
  have el := h.left ht4 ht
  have em : mv m (b + 14 + 7 * t) 5 = nv W (376 + 103 * t + 10) := by unfold mv nv; rw [el]
  obtain ⟨y1, y2, y3⟩ := yy_4 (fun k => zc2 .ne (W (376 + 103 * t + (11 + k))) l) q3
  have e10 : q_of W t 10 = Int32.ofNat (nv W (376 + 103 * t + 10)) := q1
  unfold x_leavesOut q_placeLeft
  rw [em, yl_eq h ht4 ht q3 _ _ (by omega), yp_eq, e10]
  refine ⟨y1, fun hn => ?_, y3⟩
  rw [y2 hn]
  unfold x_latest
  have z1 : zc1 .le (Int32.ofNat (mv m (b + 14 + 7 * t) 5)) = false := by
    apply decide_eq_false
    rw [em, Int32.le_iff_toInt_le, zoN (by omega), Int32.toInt_zero]
    omega
  have z2 : zc2 .gt (Int32.ofNat (mv m (b + 14 + 7 * t) 5)) (Int32.ofNat 4) = false := by
    rw [em]
    exact zcgt_f (by omega) (by omega) q3
  rw [z1, cond_false, z2, cond_false, em, h.lo ht4 ht (by omega) (by omega)]
  unfold zc2
  dsimp only
  rw [← decide_not, decide_eq_decide]
  exact Classical.not_not
/-! what is taken -/
noncomputable def x_takenB (m2 : Nat → Nat → Int32) (b t l : Nat) : Int32 × (Nat → Nat → Int32) :=
  let m3 := zm2 m2 (b + 10 + 7 * t) 5 (Int32.ofNat 0)
  let m4 := zm2 m3 (b + 5 + l) 2 (m3 (b + 5 + l) 2 + Int32.ofNat 1)
  bif zc1 .ne (m4 (b + 5 + l) 2 - m4 (b + 5 + l) 2 / (if Int32.ofNat 1 < m4 (b + 3) 7 then m4 (b + 3) 7 else Int32.ofNat 1) * (if Int32.ofNat 1 < m4 (b + 3) 7 then m4 (b + 3) 7 else Int32.ofNat 1)) then (Int32.ofNat 1, x_logAdd m4 b (m4 b 7) (Int32.ofNat t) (Int32.ofNat 3) (Int32.ofNat l)) else (Int32.ofNat 1, x_logAdd (x_gain m4 b l (Int32.ofNat 1)) b (x_gain m4 b l (Int32.ofNat 1) b 7) (Int32.ofNat t) (Int32.ofNat 3) (Int32.ofNat l))
noncomputable def x_begunB (m : Nat → Nat → Int32) (b t l : Nat) : Nat → Nat → Int32 :=
  let m1 := x_leaveOut (x_begin m b t (m (b + 10 + 7 * t) 3) (m (b + 10 + 7 * t) 4) (m b 7)) b t (Int32.ofNat l)
  let m2 := zm2 m1 (b + 14 + 7 * t) 6 (x_blockBit m1 b (m1 (b + 5 + l) 0))
  x_logAdd m2 b (m2 b 7) (Int32.ofNat t) (Int32.ofNat 0) (Int32.ofNat l)
theorem takePB_eq (m : Nat → Nat → Int32) (b t l : Nat) : x_takePB m b t l = bif zc1 .eq (m (b + 1) (mv m (b + 5 + l) 0)) then (bif zc2 .ge (m (b + 10 + 7 * t) 5) (m (b + 3) 1) then x_takenB (x_reach m b t (mv m (b + 5 + l) 0) (Int32.ofNat 1)).2 b t l else (bif zc2 .lt (m (b + 5 + l) 1) (m (b + 3) 4) then x_takenB (x_reach m b t (mv m (b + 5 + l) 0) (Int32.ofNat 1)).2 b t l else (Int32.ofNat 1, x_begunB m b t l))) else (Int32.ofNat 0, m) := rfl
theorem gain_eq (a : Int32) : (bif zc2 .ge a (Int32.ofNat 15) then Int32.ofNat 15 else a) = if a < Int32.ofNat 15 then a else Int32.ofNat 15 := by
  by_cases h : a < Int32.ofNat 15
  · rw [if_pos h]
    have : zc2 .ge a (Int32.ofNat 15) = false := by
      apply decide_eq_false
      rw [Int32.le_iff_toInt_le]
      rw [Int32.lt_iff_toInt_lt] at h
      omega
    rw [this, cond_false]
  · rw [if_neg h]
    have : zc2 .ge a (Int32.ofNat 15) = true := by
      apply decide_eq_true
      rw [Int32.le_iff_toInt_le]
      rw [Int32.lt_iff_toInt_lt] at h
      omega
    rw [this, cond_true]
theorem xgain_eq (m : Nat → Nat → Int32) (b l : Nat) (x : Int32) : x_gain m b l x = zm2 m (b + 5 + l) 1 (if m (b + 5 + l) 1 + x < Int32.ofNat 15 then m (b + 5 + l) 1 + x else Int32.ofNat 15) := by
  rw [← gain_eq]
  unfold x_gain
  cases zc2 .ge (m (b + 5 + l) 1 + x) (Int32.ofNat 15) <;> rfl
theorem gain_b {a d : Nat} (ha : a ≤ 15) (hd : d ≤ 9) : ∃ n, n ≤ 15 ∧ (if Int32.ofNat a + Int32.ofNat d < Int32.ofNat 15 then Int32.ofNat a + Int32.ofNat d else Int32.ofNat 15) = Int32.ofNat n := by
  have h : ∀ a, a < 16 → ∀ d, d < 10 → (if Int32.ofNat a + Int32.ofNat d < Int32.ofNat 15 then Int32.ofNat a + Int32.ofNat d else Int32.ofNat 15) = Int32.ofNat (min 15 (a + d)) := by decide +kernel
  exact ⟨min 15 (a + d), by omega, h a (by omega) d (by omega)⟩
theorem WX.trust {W : Nat → Int32} (h : WX W) {l d : Nat} {x : Int32} (hl : l < 4) (hd : d ≤ 9) (e : x = if W (20 + l) + Int32.ofNat d < Int32.ofNat 15 then W (20 + l) + Int32.ofNat d else Int32.ofNat 15) : WX (upd W (20 + l) x) := by
  obtain ⟨n, n1, n2⟩ := gain_b (h.1.2.2.2.2 l hl).2.2 hd
  rw [← (h.1.2.2.2.2 l hl).1, ← e] at n2
  refine WX.mk (h.W.put _ (fre_lo (by omega) (by omega))) ⟨h.1.2.2.2.1.of (upd_ne _ _ (by omega)), fun k hk => ?_⟩ (h.2.1.of (upd_ne _ _ (by omega))) (h.2.2.1.of (upd_ne _ _ (by omega))) (fun t ht => (h.T ht).of h.W ht (fun c hc _ => upd_ne _ _ (by omega)))
  by_cases q : k = l
  · rw [q]
    exact ok.is ((upd_at _ _ _).trans n2) (by omega) n1 (by omega)
  · exact (h.1.2.2.2.2 k hk).of (upd_ne _ _ (by omega))
theorem heal_eq {n : Nat} (h1 : 1 ≤ n) (h2 : n ≤ 9) : (if Int32.ofNat 1 < Int32.ofNat n then Int32.ofNat n else Int32.ofNat 1) = Int32.ofNat n := by
  have key : ∀ n, n < 10 → 1 ≤ n → (if Int32.ofNat 1 < Int32.ofNat n then Int32.ofNat n else Int32.ofNat 1) = Int32.ofNat n := by decide +kernel
  exact key n (by omega) h1
theorem taken_rx {m : Nat → Nat → Int32} {b : Nat} {V : Nat → Int32} {t l : Nat} (h : RC m b V) (hx : WX V) (hc : CG m b) (ht : t < nv V 9) (hl : l < 4) : (x_takenB m b t l).1 = Int32.ofNat 1 ∧ RC (x_takenB m b t l).2 b (q_isTaken V t l) ∧ WX (q_isTaken V t l) ∧ CG (x_takenB m b t l).2 b := by
  have h4 := hx.W.N4
  have ht4 : t < 4 := by omega
  have r1 := h.thS (c := 3) (o := 10) (s := 5) (x := Int32.ofNat 0) hx.W.C ht4 (by omega) (by omega) rfl
  have x1 : WX (upd V (376 + 103 * t + 3) (Int32.ofNat 0)) := hx.th ht4 (by omega) (by unfold cT; omega)
  have c1 : CG (zm2 m (b + 10 + 7 * t) 5 (Int32.ofNat 0)) b := hc.put _ (ncS ht4)
  unfold x_takenB q_isTaken
  dsimp only
  generalize upd V (376 + 103 * t + 3) (Int32.ofNat 0) = V1 at r1 x1 ⊢
  generalize zm2 m (b + 10 + 7 * t) 5 (Int32.ofNat 0) = m1 at r1 c1 ⊢
  rw [r1.lkR (k := 24 + l) (by omega) (by omega) (cm_24 hl)]
  have r2 := r1.lkS (k := 24 + l) (x := V1 (24 + l) + Int32.ofNat 1) x1.W.C (by omega) (by omega) (by omega) (cm_24 hl)
  have x2 : WX (upd V1 (24 + l) (V1 (24 + l) + Int32.ofNat 1)) := x1.glob (by omega) (by omega) (by omega)
  have c2 : CG (zm2 m1 (b + 5 + l) 2 (V1 (24 + l) + Int32.ofNat 1)) b := c1.put _ (ncL hl (by omega))
  generalize upd V1 (24 + l) (V1 (24 + l) + Int32.ofNat 1) = V2 at r2 x2 ⊢
  generalize zm2 m1 (b + 5 + l) 2 (V1 (24 + l) + Int32.ofNat 1) = m2 at r2 c2 ⊢
  have g7 : m2 (b + 3) 7 = V2 7 := r2.glob (k := 7) (by omega) (by omega)
  have g11 : m2 b 7 = V2 11 := r2.glob (k := 11) (by omega) (by omega)
  have o7 := x2.W.1.2.2.1
  have e7 : (if Int32.ofNat 1 < V2 7 then V2 7 else Int32.ofNat 1) = V2 7 := by
    rw [o7.1]
    exact heal_eq o7.2.1 o7.2.2
  rw [r2.lkR (k := 24 + l) (by omega) (by omega) (cm_24 hl), g7, e7, g11]
  cases zc1 .ne (V2 (24 + l) - V2 (24 + l) / V2 7 * V2 7) with
  | true =>
    simp only [cond_true]
    exact ⟨trivial, r2.log x2.W.C c2.n60, x2.logs _ _ _, c2.logAdd _ _ _ _⟩
  | false =>
    simp only [cond_false]
    have eg := xgain_eq m2 b l (Int32.ofNat 1)
    rw [r2.lkR (k := 20 + l) (by omega) (by omega) (cm_20 hl)] at eg
    rw [eg]
    have r3 := r2.lkS (k := 20 + l) (x := if V2 (20 + l) + Int32.ofNat 1 < Int32.ofNat 15 then V2 (20 + l) + Int32.ofNat 1 else Int32.ofNat 15) x2.W.C (by omega) (by omega) (by omega) (cm_20 hl)
    have x3 := x2.trust (l := l) (d := 1) hl (by omega) rfl
    have c3 := c2.put (a := b + 5 + l) (k := 1) (if V2 (20 + l) + Int32.ofNat 1 < Int32.ofNat 15 then V2 (20 + l) + Int32.ofNat 1 else Int32.ofNat 15) (ncL hl (by omega))
    have g11' : zm2 m2 (b + 5 + l) 1 (if V2 (20 + l) + Int32.ofNat 1 < Int32.ofNat 15 then V2 (20 + l) + Int32.ofNat 1 else Int32.ofNat 15) b 7 = upd V2 (20 + l) (if V2 (20 + l) + Int32.ofNat 1 < Int32.ofNat 15 then V2 (20 + l) + Int32.ofNat 1 else Int32.ofNat 15) 11 := r3.glob (k := 11) (by omega) (by omega)
    rw [g11']
    exact ⟨trivial, r3.log x3.W.C c3.n60, x3.logs _ _ _, c3.logAdd _ _ _ _⟩
end
section
/-! guesses begin alike; takes as a whole -/
theorem RC.q1 {m : Nat → Nat → Int32} {b : Nat} {W : Nat → Int32} {t n : Nat} {x : Int32} (h : RC m b W) (hC : WC W) (ht : t < 4) (ex : x = Int32.ofNat n) (hn : n ≤ 4) (hv : ∀ j, j < n → m (b + 15 + 7 * t) j = W (376 + 103 * t + (11 + j))) : RC (zm2 m (b + 14 + 7 * t) 5 x) b (upd W (376 + 103 * t + 10) x) := by
  have q := h.putG (j := 376 + 103 * t + 10) (x := x) (by omega) (by omega) (Or.inr (by omega)) hC (fun k hk hkj => ?_)
  · rw [cm_at ht (by omega), show cmT t 10 = (14 + 7 * t, 5) from rfl] at q
    dsimp only at q
    rw [show b + (14 + 7 * t) = b + 14 + 7 * t by omega] at q
    exact q
  · obtain ⟨a1, a2, a3⟩ := hk
    rcases a3 with a3 | ⟨a3, d1, d2, d3, d4, d5⟩
    · exact h.2 k ⟨a1, a2, Or.inl a3⟩
    · rw [nv_of (upd_ne _ _ (by omega))] at d1
      rw [upd_ne _ _ (by omega)] at d3
      rw [upd_ne _ _ (by omega)] at d4
      rw [nv_of (upd_ne _ _ (by omega))] at d5
      have old : (11 ≤ (k - 376) % 103 ∧ (k - 376) % 103 ≤ 14 → (k - 376) % 103 - 11 < nv W (376 + 103 * ((k - 376) / 103) + 10)) → m (b + (cm k).1) (cm k).2 = W k := fun z => h.2 k ⟨a1, a2, Or.inr ⟨a3, d1, z, d3, d4, d5⟩⟩
      by_cases hut : (k - 376) / 103 = t
      · by_cases hr : 11 ≤ (k - 376) % 103 ∧ (k - 376) % 103 ≤ 14
        · have d2' := d2 hr
          rw [hut] at d2'
          unfold nv at d2'
          rw [upd_at, ex, nv_on (by omega)] at d2'
          have ek : k = 376 + 103 * t + (11 + ((k - 376) % 103 - 11)) := by omega
          have hj : (k - 376) % 103 - 11 < 4 := by omega
          generalize (k - 376) % 103 - 11 = j at ek hj d2'
          rw [ek, cm_at ht (by omega), cmT_l hj]
          dsimp only
          rw [show b + (15 + 7 * t) = b + 15 + 7 * t by omega]
          exact hv j d2'
        · exact old (fun z => absurd z hr)
      · refine old (fun z => ?_)
        have d2' := d2 z
        rw [nv_of (upd_ne _ _ (by omega))] at d2'
        exact d2'
theorem RC.g1 {m : Nat → Nat → Int32} {b : Nat} {W : Nat → Int32} {t : Nat} (h : RC m b W) (hC : WC W) (ht : t < 4) (h18 : m (b + 14 + 7 * t) 1 = W (376 + 103 * t + 18)) (h19 : m (b + 14 + 7 * t) 2 = W (376 + 103 * t + 19)) (h20 : m (b + 14 + 7 * t) 3 = W (376 + 103 * t + 20)) : RC (zm2 m (b + 14 + 7 * t) 0 (Int32.ofNat 1)) b (upd W (376 + 103 * t + 2) (Int32.ofNat 1)) := by
  have q := h.putG (j := 376 + 103 * t + 2) (x := Int32.ofNat 1) (by omega) (by omega) (Or.inr (by omega)) hC (fun k hk hkj => ?_)
  · rw [cm_at ht (by omega), show cmT t 2 = (14 + 7 * t, 0) from rfl] at q
    dsimp only at q
    rw [show b + (14 + 7 * t) = b + 14 + 7 * t by omega] at q
    exact q
  · obtain ⟨a1, a2, a3⟩ := hk
    rcases a3 with a3 | ⟨a3, d1, d2, d3, d4, d5⟩
    · exact h.2 k ⟨a1, a2, Or.inl a3⟩
    · rw [nv_of (upd_ne _ _ (by omega))] at d1
      rw [nv_of (upd_ne _ _ (by omega))] at d2
      rw [upd_ne _ _ (by omega)] at d4
      rw [nv_of (upd_ne _ _ (by omega))] at d5
      have old : (18 ≤ (k - 376) % 103 ∧ (k - 376) % 103 ≤ 20 → W (376 + 103 * ((k - 376) / 103) + 2) = Int32.ofNat 1) → m (b + (cm k).1) (cm k).2 = W k := fun z => h.2 k ⟨a1, a2, Or.inr ⟨a3, d1, d2, z, d4, d5⟩⟩
      by_cases hut : (k - 376) / 103 = t
      · by_cases hr : 18 ≤ (k - 376) % 103 ∧ (k - 376) % 103 ≤ 20
        · have eb : b + (14 + 7 * t) = b + 14 + 7 * t := by omega
          by_cases c1 : (k - 376) % 103 = 18
          · have ek : k = 376 + 103 * t + 18 := by omega
            rw [ek, cm_at ht (by omega), show cmT t 18 = (14 + 7 * t, 1) from rfl]
            dsimp only
            rw [eb]
            exact h18
          · by_cases c2 : (k - 376) % 103 = 19
            · have ek : k = 376 + 103 * t + 19 := by omega
              rw [ek, cm_at ht (by omega), show cmT t 19 = (14 + 7 * t, 2) from rfl]
              dsimp only
              rw [eb]
              exact h19
            · have ek : k = 376 + 103 * t + 20 := by omega
              rw [ek, cm_at ht (by omega), show cmT t 20 = (14 + 7 * t, 3) from rfl]
              dsimp only
              rw [eb]
              exact h20
        · exact old (fun z => absurd z hr)
      · refine old (fun z => ?_)
        have d3' := d3 z
        rw [upd_ne _ _ (by omega)] at d3'
        exact d3'
theorem leaveOut_eq {m : Nat → Nat → Int32} {b t n : Nat} {l : Int32} (e : m (b + 14 + 7 * t) 5 = Int32.ofNat n) (hn : n < 4) : x_leaveOut m b t l = zm2 (zm2 m (b + 15 + 7 * t) n l) (b + 14 + 7 * t) 5 (Int32.ofNat (n + 1)) := by
  have em : mv m (b + 14 + 7 * t) 5 = n := by unfold mv; rw [e, nv_on (by omega)]
  unfold x_leaveOut
  rw [em, zcge_f (by omega) (by omega) hn, cond_false, zx_ne _ _ _ (by omega), e, i_add]
theorem leavesOut_rx {m : Nat → Nat → Int32} {b : Nat} {W : Nat → Int32} {t l : Nat} (h : RC m b W) (hx : WX W) (hc : CG m b) (ht : t < nv W 9) (hl : l < 4) (hA : AL W t) (hg : W (376 + 103 * t + 2) = Int32.ofNat 1) (hq : nv W (376 + 103 * t + 10) < 4) : RC (x_leaveOut m b t (Int32.ofNat l)) b (q_leavesOut W t l) ∧ WX (q_leavesOut W t l) ∧ CG (x_leaveOut m b t (Int32.ofNat l)) b := by
  have h4 := hx.W.N4
  have ht4 : t < 4 := by omega
  have q0 := (hx.W.2 t ht4).2.1.1
  have el := h.left ht4 ht
  have eM := leaveOut_eq (l := Int32.ofNat l) (el.trans q0) hq
  have r1 := h.thS (c := 11 + nv W (376 + 103 * t + 10)) (o := 15) (s := nv W (376 + 103 * t + 10)) (x := Int32.ofNat l) hx.W.C ht4 (by omega) (by omega) (cmT_l hq)
  have eW : q_leavesOut W t l = upd (upd W (376 + 103 * t + (11 + nv W (376 + 103 * t + 10))) (Int32.ofNat l)) (376 + 103 * t + 10) (Int32.ofNat (nv W (376 + 103 * t + 10) + 1)) := by
    unfold q_leavesOut
    rw [upd_ne (l := 376 + 103 * t + 10) _ _ (by omega), ← i_add, ← q0]
  have w := KG.leavesOut (l := l) ⟨hx.W, hA⟩ ht4 hl hq hg
  refine ⟨?_, ?_, hc.leaveOut ht4 hl⟩
  · rw [eM, eW]
    refine r1.q1 (n := nv W (376 + 103 * t + 10) + 1) (WC_of (upd_ne _ _ (by omega)) hx.W.C) ht4 rfl (by omega) (fun j hj => ?_)
    by_cases e : j = nv W (376 + 103 * t + 10)
    · rw [e, zx_at, upd_at]
    · rw [zx_nk _ _ e, upd_ne _ _ (by omega)]
      exact h.lo ht4 ht (by omega) (by omega)
  · refine hx.one ht4 w.1 (fun k hk => ?_) (fun u hu hut c hc => ?_) ?_
    · rw [eW, upd_ne _ _ (by omega), upd_ne _ _ (by omega)]
    · rw [eW, upd_ne _ _ (by omega), upd_ne _ _ (by omega)]
    · obtain ⟨a1, a2, a3⟩ := hx.T ht4
      refine ⟨fun q => ?_, fun _ => ?_, a3.of hx.W ht4 ?_ ?_ ?_ (fun p hp => ?_)⟩
      · rw [eW, upd_ne _ _ (by omega), upd_ne _ _ (by omega), hg] at q
        exact absurd q (by decide)
      · unfold nv
        rw [eW, upd_at, nv_on (by omega)]
        omega
      · rw [eW, upd_ne _ _ (by omega), upd_ne _ _ (by omega)]
      · rw [eW, upd_ne _ _ (by omega), upd_ne _ _ (by omega)]
      · rw [eW, upd_ne _ _ (by omega), upd_ne _ _ (by omega)]
      · rw [eW, upd_ne _ _ (by omega), upd_ne _ _ (by omega)]
theorem begun_rx {m : Nat → Nat → Int32} {b : Nat} {W : Nat → Int32} {t l : Nat} (h : RC m b W) (hx : WX W) (hc : CG m b) (ht : t < nv W 9) (hl : l < 4) (hA : AL W t) (hg : W (376 + 103 * t + 2) = Int32.ofNat 0) : RC (x_begunB m b t l) b (q_beginsGuess W t l) ∧ WX (q_beginsGuess W t l) ∧ CG (x_begunB m b t l) b := by
  have h4 := hx.W.N4
  have ht4 : t < 4 := by omega
  have q10 : W (376 + 103 * t + 10) = Int32.ofNat 0 := (hx.W.2 t ht4).2.2.2.2.2.2.1 hg
  have n10 : nv W (376 + 103 * t + 10) = 0 := by unfold nv; rw [q10, nv_on (by omega)]
  have e5 : m (b + 14 + 7 * t) 5 = Int32.ofNat 0 := (h.left ht4 ht).trans q10
  have e3 : m (b + 10 + 7 * t) 3 = W (376 + 103 * t + 0) := h.cellS ht4 (by omega) (cnd0 ht (by omega)) rfl
  have e4 : m (b + 10 + 7 * t) 4 = W (376 + 103 * t + 1) := h.cellS ht4 (by omega) (cnd0 ht (by omega)) rfl
  have e7 : m b 7 = W 11 := h.glob (k := 11) (by omega) (by omega)
  have el : m (b + 5 + l) 0 = W (16 + l) := h.lkR (k := 16 + l) (by omega) (by omega) (cm_16 hl)
  have C := hx.W.C
  -- the cells in an order in which all stays alike
  have s1 := h.thS (c := 18) (o := 14) (s := 1) (x := W (376 + 103 * t + 0)) C ht4 (by omega) (by omega) rfl
  have C1 := WC_of (V := upd W (376 + 103 * t + 18) (W (376 + 103 * t + 0))) (upd_ne _ _ (by omega)) C
  have s2 := s1.thS (c := 19) (o := 14) (s := 2) (x := W (376 + 103 * t + 1)) C1 ht4 (by omega) (by omega) rfl
  have C2 := WC_of (V := upd (upd W (376 + 103 * t + 18) (W (376 + 103 * t + 0))) (376 + 103 * t + 19) (W (376 + 103 * t + 1))) (upd_ne _ _ (by omega)) C1
  have s3 := s2.thS (c := 20) (o := 14) (s := 3) (x := W 11) C2 ht4 (by omega) (by omega) rfl
  have C3 := WC_of (V := upd (upd (upd W (376 + 103 * t + 18) (W (376 + 103 * t + 0))) (376 + 103 * t + 19) (W (376 + 103 * t + 1))) (376 + 103 * t + 20) (W 11)) (upd_ne _ _ (by omega)) C2
  have s4 := s3.thS (c := 11) (o := 15) (s := 0) (x := Int32.ofNat l) C3 ht4 (by omega) (by omega) rfl
  have C4 := WC_of (V := upd (upd (upd (upd W (376 + 103 * t + 18) (W (376 + 103 * t + 0))) (376 + 103 * t + 19) (W (376 + 103 * t + 1))) (376 + 103 * t + 20) (W 11)) (376 + 103 * t + 11) (Int32.ofNat l)) (upd_ne _ _ (by omega)) C3
  have s5 := s4.thS (c := 15) (o := 14) (s := 6) (x := q_blockOf W (W (16 + l))) C4 ht4 (by omega) (by omega) rfl
  have C5 := WC_of (V := upd (upd (upd (upd (upd W (376 + 103 * t + 18) (W (376 + 103 * t + 0))) (376 + 103 * t + 19) (W (376 + 103 * t + 1))) (376 + 103 * t + 20) (W 11)) (376 + 103 * t + 11) (Int32.ofNat l)) (376 + 103 * t + 15) (q_blockOf W (W (16 + l)))) (upd_ne _ _ (by omega)) C4
  have s6 := s5.q1 (t := t) (n := 1) (x := Int32.ofNat 1) C5 ht4 rfl (by omega) (fun j hj => by
    have : j = 0 := by omega
    subst this
    simp (disch := omega) only [zx_ne, zx_at, upd_ne, upd_at])
  have C6 := WC_of (V := upd (upd (upd (upd (upd (upd W (376 + 103 * t + 18) (W (376 + 103 * t + 0))) (376 + 103 * t + 19) (W (376 + 103 * t + 1))) (376 + 103 * t + 20) (W 11)) (376 + 103 * t + 11) (Int32.ofNat l)) (376 + 103 * t + 15) (q_blockOf W (W (16 + l)))) (376 + 103 * t + 10) (Int32.ofNat 1)) (upd_ne _ _ (by omega)) C5
  have s7 := s6.g1 (t := t) C6 ht4 (by simp (disch := omega) only [zx_ne, zx_nk, zx_at, upd_ne, upd_at]) (by simp (disch := omega) only [zx_ne, zx_nk, zx_at, upd_ne, upd_at]) (by simp (disch := omega) only [zx_ne, zx_nk, zx_at, upd_ne, upd_at])
  have C7 := WC_of (V := upd (upd (upd (upd (upd (upd (upd W (376 + 103 * t + 18) (W (376 + 103 * t + 0))) (376 + 103 * t + 19) (W (376 + 103 * t + 1))) (376 + 103 * t + 20) (W 11)) (376 + 103 * t + 11) (Int32.ofNat l)) (376 + 103 * t + 15) (q_blockOf W (W (16 + l)))) (376 + 103 * t + 10) (Int32.ofNat 1)) (376 + 103 * t + 2) (Int32.ofNat 1)) (upd_ne _ _ (by omega)) C6
  have w := KG.bg (x19 := W (376 + 103 * t + 1)) (x20 := W 11) (x15 := q_blockOf W (W (16 + l))) (l := l) ⟨hx.W, hA⟩ ht4 hl (by omega)
  have eW : q_leavesOut (upd (upd (upd (upd (upd W (376 + 103 * t + 2) (Int32.ofNat 1)) (376 + 103 * t + 18) (W (376 + 103 * t + 0))) (376 + 103 * t + 19) (W (376 + 103 * t + 1))) (376 + 103 * t + 20) (W 11)) (376 + 103 * t + 15) (q_blockOf W (W (16 + l)))) t l = upd (upd (upd (upd (upd (upd (upd W (376 + 103 * t + 18) (W (376 + 103 * t + 0))) (376 + 103 * t + 19) (W (376 + 103 * t + 1))) (376 + 103 * t + 20) (W 11)) (376 + 103 * t + 11) (Int32.ofNat l)) (376 + 103 * t + 15) (q_blockOf W (W (16 + l)))) (376 + 103 * t + 10) (Int32.ofNat 1)) (376 + 103 * t + 2) (Int32.ofNat 1) := by
    unfold q_leavesOut
    have e10 : nv (upd (upd (upd (upd (upd W (376 + 103 * t + 2) (Int32.ofNat 1)) (376 + 103 * t + 18) (W (376 + 103 * t + 0))) (376 + 103 * t + 19) (W (376 + 103 * t + 1))) (376 + 103 * t + 20) (W 11)) (376 + 103 * t + 15) (q_blockOf W (W (16 + l)))) (376 + 103 * t + 10) = 0 := by
      rw [← n10]
      apply nv_of
      simp (disch := omega) only [upd_ne]
    rw [e10]
    have z : Int32.ofNat 0 + Int32.ofNat 1 = Int32.ofNat 1 := by decide
    funext j
    by_cases c0 : j = 376 + 103 * t + 10
    · subst c0
      simp (disch := omega) only [upd_ne, upd_at, q10, z]
    · rw [upd_ne _ _ c0]
      by_cases c1 : j = 376 + 103 * t + 11
      · subst c1
        simp (disch := omega) only [upd_ne]
        rw [show 376 + 103 * t + (11 + 0) = 376 + 103 * t + 11 from rfl, upd_at, upd_at]
      · by_cases c2 : j = 376 + 103 * t + 2
        · subst c2
          simp (disch := omega) only [upd_ne, upd_at]
        · by_cases c3 : j = 376 + 103 * t + 18
          · subst c3
            simp (disch := omega) only [upd_ne, upd_at]
          · by_cases c4 : j = 376 + 103 * t + 19
            · subst c4
              simp (disch := omega) only [upd_ne, upd_at]
            · by_cases c5 : j = 376 + 103 * t + 20
              · subst c5
                simp (disch := omega) only [upd_ne, upd_at]
              · by_cases c6 : j = 376 + 103 * t + 15
                · subst c6
                  simp (disch := omega) only [upd_ne, upd_at]
                · simp (disch := omega) only [upd_ne]
  have eQ : q_beginsGuess W t l = q_logs (upd (upd (upd (upd (upd (upd (upd W (376 + 103 * t + 18) (W (376 + 103 * t + 0))) (376 + 103 * t + 19) (W (376 + 103 * t + 1))) (376 + 103 * t + 20) (W 11)) (376 + 103 * t + 11) (Int32.ofNat l)) (376 + 103 * t + 15) (q_blockOf W (W (16 + l)))) (376 + 103 * t + 10) (Int32.ofNat 1)) (376 + 103 * t + 2) (Int32.ofNat 1)) (Int32.ofNat t) (Int32.ofNat 0) (Int32.ofNat l) := by
    rw [← eW]
    unfold q_beginsGuess q_of q_blockOf
    simp (disch := omega) only [upd_ne]
  have eM : x_leaveOut (x_begin m b t (m (b + 10 + 7 * t) 3) (m (b + 10 + 7 * t) 4) (m b 7)) b t (Int32.ofNat l) = zm2 (zm2 (x_begin m b t (m (b + 10 + 7 * t) 3) (m (b + 10 + 7 * t) 4) (m b 7)) (b + 15 + 7 * t) 0 (Int32.ofNat l)) (b + 14 + 7 * t) 5 (Int32.ofNat 1) := by
    have q : x_begin m b t (m (b + 10 + 7 * t) 3) (m (b + 10 + 7 * t) 4) (m b 7) (b + 14 + 7 * t) 5 = Int32.ofNat 0 := by
      unfold x_begin
      simp (disch := omega) only [zx_nk]
      exact e5
    exact leaveOut_eq q (by omega)
  have eB : x_begunB m b t l = x_logAdd (zm2 (zm2 (zm2 (zm2 (zm2 (zm2 (zm2 m (b + 14 + 7 * t) 1 (W (376 + 103 * t + 0))) (b + 14 + 7 * t) 2 (W (376 + 103 * t + 1))) (b + 14 + 7 * t) 3 (W 11)) (b + 15 + 7 * t) 0 (Int32.ofNat l)) (b + 14 + 7 * t) 6 (q_blockOf W (W (16 + l)))) (b + 14 + 7 * t) 5 (Int32.ofNat 1)) (b + 14 + 7 * t) 0 (Int32.ofNat 1)) b (W 11) (Int32.ofNat t) (Int32.ofNat 0) (Int32.ofNat l) := by
    unfold x_begunB
    dsimp only
    rw [eM]
    have k1 : zm2 (zm2 (x_begin m b t (m (b + 10 + 7 * t) 3) (m (b + 10 + 7 * t) 4) (m b 7)) (b + 15 + 7 * t) 0 (Int32.ofNat l)) (b + 14 + 7 * t) 5 (Int32.ofNat 1) (b + 5 + l) 0 = W (16 + l) := by
      unfold x_begin
      simp (disch := omega) only [zx_ne]
      exact el
    have k2 : x_blockBit (zm2 (zm2 (x_begin m b t (m (b + 10 + 7 * t) 3) (m (b + 10 + 7 * t) 4) (m b 7)) (b + 15 + 7 * t) 0 (Int32.ofNat l)) (b + 14 + 7 * t) 5 (Int32.ofNat 1)) b (W (16 + l)) = q_blockOf W (W (16 + l)) := by
      rw [← block_eq h hx.W]
      unfold x_blockBit x_begin
      simp (disch := omega) only [zx_ne]
    rw [k1, k2, e3, e4, e7]
    have k3 : zm2 (zm2 (zm2 (x_begin m b t (W (376 + 103 * t + 0)) (W (376 + 103 * t + 1)) (W 11)) (b + 15 + 7 * t) 0 (Int32.ofNat l)) (b + 14 + 7 * t) 5 (Int32.ofNat 1)) (b + 14 + 7 * t) 6 (q_blockOf W (W (16 + l))) b 7 = W 11 := by
      unfold x_begin
      simp (disch := omega) only [zx_ne]
      exact e7
    rw [k3]
    congr 1
    funext i k
    unfold x_begin
    by_cases ca : i = b + 14 + 7 * t
    · subst ca
      by_cases c0 : k = 0
      · subst c0
        simp (disch := omega) only [zx_ne, zx_nk, zx_at]
      · by_cases c1 : k = 1
        · subst c1
          simp (disch := omega) only [zx_ne, zx_nk, zx_at]
        · by_cases c2 : k = 2
          · subst c2
            simp (disch := omega) only [zx_ne, zx_nk, zx_at]
          · by_cases c3 : k = 3
            · subst c3
              simp (disch := omega) only [zx_ne, zx_nk, zx_at]
            · by_cases c5 : k = 5
              · subst c5
                simp (disch := omega) only [zx_ne, zx_nk, zx_at]
              · by_cases c6 : k = 6
                · subst c6
                  simp (disch := omega) only [zx_ne, zx_nk, zx_at]
                · simp (disch := omega) only [zx_ne, zx_nk]
    · by_cases cb : i = b + 15 + 7 * t
      · subst cb
        by_cases c0 : k = 0
        · subst c0
          simp (disch := omega) only [zx_ne, zx_nk, zx_at]
        · simp (disch := omega) only [zx_ne, zx_nk]
      · simp (disch := omega) only [zx_ne]
  have hc7 : CG (x_begunB m b t l) b := ((((hc.begin ht4).leaveOut ht4 hl).put _ (ncG ht4 (by omega))).logAdd _ _ _ _)
  rw [eW] at w
  refine ⟨?_, ?_, hc7⟩
  · rw [eB, eQ]
    have g11 : upd (upd (upd (upd (upd (upd (upd W (376 + 103 * t + 18) (W (376 + 103 * t + 0))) (376 + 103 * t + 19) (W (376 + 103 * t + 1))) (376 + 103 * t + 20) (W 11)) (376 + 103 * t + 11) (Int32.ofNat l)) (376 + 103 * t + 15) (q_blockOf W (W (16 + l)))) (376 + 103 * t + 10) (Int32.ofNat 1)) (376 + 103 * t + 2) (Int32.ofNat 1) 11 = W 11 := by simp (disch := omega) only [upd_ne]
    have r := s7.log (t := Int32.ofNat t) (w := Int32.ofNat 0) (v := Int32.ofNat l) C7 (zxb (by simp (disch := omega) only [zx_ne]) hc.n60)
    rw [g11] at r
    exact r
  · rw [eQ]
    refine WX.logs ?_ _ _ _
    refine hx.one ht4 w.1 (fun k hk => ?_) (fun u hu hut c hc => ?_) ?_
    · simp (disch := omega) only [upd_ne]
    · simp (disch := omega) only [upd_ne]
    · obtain ⟨a1, a2, a3⟩ := hx.T ht4
      refine ⟨fun q => ?_, fun _ => ?_, a3.of hx.W ht4 ?_ ?_ ?_ (fun p hp => ?_)⟩
      · rw [upd_at] at q
        exact absurd q (by decide)
      · unfold nv
        rw [upd_ne _ _ (by omega), upd_at, nv_on (by omega)]
        omega
      · simp (disch := omega) only [upd_ne]
      · simp (disch := omega) only [upd_ne]
      · simp (disch := omega) only [upd_ne]
      · simp (disch := omega) only [upd_ne]
end
section
/-! a deed, on both sides -/
noncomputable def RD (b t : Nat) (mm : Nat → Nat → Int32) (W : Nat → Int32) (p : QM) (q : QT) : Prop := RC p.2 b q.2.1 ∧ WX q.2.1 ∧ CG p.2 b ∧ nv q.2.1 9 = nv W 9 ∧ ((p.1 = Int32.ofNat 1 ∧ q.1 = Int32.ofNat 1 ∧ q.2.2 = mm ∧ (q.2.1 (376 + 103 * t + 21) = W (376 + 103 * t + 21) ∨ q.2.1 (376 + 103 * t + 21) = Int32.ofNat 0)) ∨ (p.1 = Int32.ofNat 0 ∧ q.1 = Int32.ofNat 0 ∧ q.2.2 = mm) ∨ (p.1 = -1 ∧ q.1 = Int32.ofNat 0 ∧ q.2.2 = zm2 mm 137 5 (Int32.ofNat 1)))
theorem cnT {α : Type} (a b : α) : (bif true then a else b) = a := Eq.trans (cond_true a b) (Eq.refl a)
theorem cnF {α : Type} (a b : α) : (bif false then a else b) = b := Eq.trans (cond_false a b) (Eq.refl b)
theorem zne_n (z : Int32) : zc1 .ne z = !(zc1 .eq z) := by
  unfold zc1
  dsimp only
  rw [decide_not]
theorem zne2_n (y z : Int32) : zc2 .ne y z = !(zc2 .eq y z) := by
  unfold zc2
  dsimp only
  rw [decide_not]
theorem zge_n (y z : Int32) : zc2 .ge y z = !(zc2 .lt y z) := by
  unfold zc2
  dsimp only
  rw [← decide_not, decide_eq_decide, Int32.le_iff_toInt_le, Int32.lt_iff_toInt_lt]
  omega
/-- what a read or a write leaves of the world's count -/
theorem clears_9 {mm : Nat → Nat → Int32} {W : Nat → Int32} {t : Nat} {s : Int32} (hw : WG W) (ht : t < 4) : (q_clears mm W t s).2.1 9 = W 9 := by
  have L : ∀ (n k : Nat) (V : Nat → Int32), k + n = nv W 9 → WG V → (l_clears (Int32.ofNat t) s (nv W 9) n k V).2 9 = V 9 := by
    have h4 := hw.N4
    intro n
    induction n with
    | zero => intro k V _ _; rfl
    | succ n ih =>
      intro k V hk hV
      rw [l_clears]
      cases zc1 .eq (q_holds s k) with
      | true => exact ih _ _ (by omega) hV
      | false => exact (ih _ _ (by omega) (hV.falls (by omega) (by omega))).trans (falls_6 hV (by omega) (by omega) (by omega))
  unfold q_clears
  cases zc1 .eq (q_yields W t s) with
  | true => exact L _ _ _ (by omega) hw
  | false => exact falls_6 hw ht (by omega) (by omega)
theorem reads_9 {mm : Nat → Nat → Int32} {W : Nat → Int32} {t : Nat} {w : Int32} (hw : WG W) (ht : t < 4) : (q_reads mm W t w).2.1 9 = W 9 := by
  have e := clears_9 (mm := mm) (s := q_clash W (Int32.ofNat t) (q_blockOf W w) (Int32.ofNat 0)) hw ht
  unfold q_reads
  generalize q_clears mm W t (q_clash W (Int32.ofNat t) (q_blockOf W w) (Int32.ofNat 0)) = c at e ⊢
  refine cndi (fun q : QT => q.2.1 9 = W 9) (cndi (fun q : QT => q.2.1 9 = W 9) e ?_) e
  dsimp only
  rw [upd_ne _ _ (by omega)]
  exact e
theorem writesB_9 {mm : Nat → Nat → Int32} {W : Nat → Int32} {t w : Nat} {v x g : Int32} (hw : WG W) (ht : t < 4) : (q_writesB mm W t w v x g).2.1 9 = W 9 := by
  have e := clears_9 (mm := mm) (s := q_clash W (Int32.ofNat t) x (Int32.ofNat 1)) hw ht
  unfold q_writesB
  generalize q_clears mm W t (q_clash W (Int32.ofNat t) x (Int32.ofNat 1)) = c at e ⊢
  refine cndi (fun q : QT => q.2.1 9 = W 9) (cndi (fun q : QT => q.2.1 9 = W 9) ?_ ?_) e
  · show upd _ _ _ 9 = W 9
    rw [upd_ne _ _ (by omega)]
    exact e
  · show upd (upd (upd _ _ _) _ _) _ _ 9 = W 9
    rw [upd_ne _ _ (by omega), upd_ne _ _ (by omega), upd_ne _ _ (by omega)]
    exact e
theorem writes_9 {mm : Nat → Nat → Int32} {W : Nat → Int32} {t w : Nat} {v : Int32} (hw : WG W) (ht : t < 4) : (q_writes mm W t w v).2.1 9 = W 9 := by
  unfold q_writes
  exact cndi (fun q : QT => q.2.1 9 = W 9) (writesB_9 hw ht) (cndi (fun q : QT => q.2.1 9 = W 9) (writesB_9 hw ht) (cndi (fun q : QT => q.2.1 9 = W 9) (writesB_9 hw ht) (falls_6 hw ht (by omega) (by omega))))
/-- a read or a write that is all of a deed -/
theorem RU.d {mm : Nat → Nat → Int32} {b t : Nat} {W : Nat → Int32} {p : QM} {q : QT} (h : RU b t mm W p q) (e9 : q.2.1 9 = W 9) : RD b t mm W p q := by
  obtain ⟨h1, h2, h3, h4⟩ := h
  refine ⟨h1, h2, h3, nv_of e9, ?_⟩
  rcases h4 with ⟨a, c, d, f⟩ | ⟨a, c, d, _⟩
  · exact Or.inl ⟨a, c, d, Or.inl (f.2 21 (by omega) (by omega) (by omega))⟩
  · exact Or.inr (Or.inr ⟨a, c, d⟩)
theorem RD.fell {m mm : Nat → Nat → Int32} {b : Nat} {W : Nat → Int32} {t y : Nat} (h : RC m b W) (hx : WX W) (hc : CG m b) (ht : t < nv W 9) (hy : y < 5) (hg : W (376 + 103 * t + 2) = Int32.ofNat 1) : RD b t mm W ((x_fall m b t y).1, (x_fall m b t y).2) (Int32.ofNat 0, (q_itFalls mm W t y).1, (q_itFalls mm W t y).2) := by
  have h4 := hx.W.N4
  exact (RU.fell h hx hc ht hy hg).d (falls_6 hx.W (by omega) hy (by omega))
theorem RD.of {mm : Nat → Nat → Int32} {b t : Nat} {W V : Nat → Int32} {p : QM} {q : QT} (h : RD b t mm V p q) (e9 : nv V 9 = nv W 9) (e21 : V (376 + 103 * t + 21) = W (376 + 103 * t + 21)) : RD b t mm W p q := by
  unfold RD at *
  rw [e9, e21] at h
  exact h
theorem isTaken_9 {V : Nat → Int32} {t l : Nat} (hw : WG V) (hl : l < 4) : q_isTaken V t l 9 = V 9 ∧ (t < 4 → q_isTaken V t l (376 + 103 * t + 21) = V (376 + 103 * t + 21)) := by
  have C1 : WC (upd (upd V (376 + 103 * t + 3) (Int32.ofNat 0)) (24 + l) (upd V (376 + 103 * t + 3) (Int32.ofNat 0) (24 + l) + Int32.ofNat 1)) := WC_of (by simp (disch := omega) only [upd_ne]) hw.C
  unfold q_isTaken
  refine cndi (fun q : Nat → Int32 => q 9 = V 9 ∧ (t < 4 → q (376 + 103 * t + 21) = V (376 + 103 * t + 21))) ?_ ?_
  · refine ⟨?_, fun _ => ?_⟩
    · rw [logs_fr C1 (by omega) (by omega)]
      simp (disch := omega) only [upd_ne]
    · rw [logs_fr C1 (by omega) (by omega)]
      simp (disch := omega) only [upd_ne]
  · refine ⟨?_, fun _ => ?_⟩
    · rw [logs_fr (WC_of (upd_ne _ _ (by omega)) C1) (by omega) (by omega)]
      simp (disch := omega) only [upd_ne]
    · rw [logs_fr (WC_of (upd_ne _ _ (by omega)) C1) (by omega) (by omega)]
      simp (disch := omega) only [upd_ne]
theorem begins_9 {W : Nat → Int32} {t l : Nat} (hw : WG W) (hl : nv W (376 + 103 * t + 10) < 4) : q_beginsGuess W t l 9 = W 9 ∧ q_beginsGuess W t l (376 + 103 * t + 21) = W (376 + 103 * t + 21) := by
  have e10 : ∀ a c d f g : Int32, nv (upd (upd (upd (upd (upd W (376 + 103 * t + 2) a) (376 + 103 * t + 18) c) (376 + 103 * t + 19) d) (376 + 103 * t + 20) f) (376 + 103 * t + 15) g) (376 + 103 * t + 10) = nv W (376 + 103 * t + 10) := fun a c d f g => nv_of (by simp (disch := omega) only [upd_ne])
  unfold q_beginsGuess q_leavesOut
  rw [e10]
  constructor
  · rw [logs_fr (WC_of (by simp (disch := omega) only [upd_ne]) hw.C) (by omega) (by omega)]
    simp (disch := omega) only [upd_ne]
  · rw [logs_fr (WC_of (by simp (disch := omega) only [upd_ne]) hw.C) (by omega) (by omega)]
    simp (disch := omega) only [upd_ne]
theorem takeP_rx {m mm : Nat → Nat → Int32} {b : Nat} {W : Nat → Int32} {t l : Nat} (h : RC m b W) (hx : WX W) (hc : CG m b) (ht : t < nv W 9) (hl : l < 4) (hA : AL W t) (hg : W (376 + 103 * t + 2) = Int32.ofNat 0) : RD b t mm W (x_takePlainly m b t l) (q_takes mm W t l) := by
  have h4 := hx.W.N4
  have ht4 : t < 4 := by omega
  have w32 := hx.W.lk32 hl
  have r := reads_rx (mm := mm) (w := nv W (16 + l)) h hx hc ht
  have k := KG.reads (m := mm) (t := t) ⟨hx.W, hA⟩ ht4 (Int32.ofNat (nv W (16 + l)))
  unfold x_takePlainly q_takes
  rw [h.lw hl]
  generalize x_reach m b t (nv W (16 + l)) (-1) = P at r ⊢
  generalize q_reads mm W t (Int32.ofNat (nv W (16 + l))) = Q at r k ⊢
  obtain ⟨p0, m'⟩ := P
  obtain ⟨q0, W', mm'⟩ := Q
  obtain ⟨h', x', c', d⟩ := r
  rcases d with ⟨-, d2, d3, f⟩ | ⟨-, -, -, d4⟩
  rotate_left
  · rw [hg] at d4
    exact absurd d4 (by decide)
  dsimp only at h' x' c' d2 d3 f k ⊢
  subst d2
  subst d3
  rw [zn1, cond_true]
  have e2 : W' (376 + 103 * t + 2) = Int32.ofNat 0 := (f.2 2 (by omega) (by omega) (by omega)).trans hg
  have n9 : nv W' 9 = nv W 9 := nv_of (f.1 9 (by omega))
  have e21 : W' (376 + 103 * t + 21) = W (376 + 103 * t + 21) := f.2 21 (by omega) (by omega) (by omega)
  have nl : nv W' (16 + l) = nv W (16 + l) := nv_of (f.1 (16 + l) (by omega))
  have ht' : t < nv W' 9 := by omega
  refine RD.of (V := W') ?_ n9 e21
  rw [takePB_eq, h'.lw hl, nl]
  have es : q_seen W' t (nv W (16 + l)) = m' (b + 1) (nv W (16 + l)) := by
    rw [← seen_eq h' x' ht' w32]
    unfold x_seenBy
    rw [h'.gs ht4 ht', e2, zeq0, cond_true]
  have q2 : zc2 .ne (q_of W' t 2) (Int32.ofNat 1) = true := decide_eq_true (by show ¬ W' (376 + 103 * t + 2) = Int32.ofNat 1; rw [e2]; decide)
  unfold q_takesB
  rw [es, zne_n]
  cases hz : zc1 .eq (m' (b + 1) (nv W (16 + l))) with
  | false =>
    simp only [cnT, cnF, Bool.not_false]
    unfold q_takesC
    rw [q2, cond_true, zne0, cond_false]
    exact ⟨h', x', c', rfl, Or.inr (Or.inl ⟨rfl, rfl, rfl⟩)⟩
  | true =>
    simp only [cnT, cnF, Bool.not_true]
    unfold q_takesC
    rw [q2, cond_true, zn1, cond_true]
    have t3 : m' (b + 10 + 7 * t) 5 = q_of W' t 3 := h'.cellS ht4 (by omega) (cnd0 ht' (by omega)) rfl
    have t1 : m' (b + 3) 1 = W' 1 := h'.glob (k := 1) (by omega) (by omega)
    have t20 : m' (b + 5 + l) 1 = W' (20 + l) := h'.lkR (k := 20 + l) (by omega) (by omega) (cm_20 hl)
    have t4 : m' (b + 3) 4 = W' 4 := h'.glob (k := 4) (by omega) (by omega)
    rw [t3, t1, t20, t4]
    -- what is taken
    have wr := writes_rx (mm := mm') (w := nv W (16 + l)) (v := Int32.ofNat 1) h' x' c' ht' w32 (by decide)
    generalize x_reach m' b t (nv W (16 + l)) (Int32.ofNat 1) = P at wr ⊢
    generalize q_writes mm' W' t (nv W (16 + l)) (Int32.ofNat 1) = Q at wr ⊢
    obtain ⟨p1, m2⟩ := P
    obtain ⟨q1, W2, mm2⟩ := Q
    obtain ⟨h2, x2, c2, d⟩ := wr
    rcases d with ⟨-, d2, d3, f2⟩ | ⟨-, -, -, d4⟩
    rotate_left
    · rw [e2] at d4
      exact absurd d4 (by decide)
    dsimp only at h2 x2 c2 d2 d3 f2 ⊢
    subst d3
    have n92 : nv W2 9 = nv W' 9 := nv_of (f2.1 9 (by omega))
    obtain ⟨z1, z2, z3, z4⟩ := taken_rx (t := t) (l := l) h2 x2 c2 (by omega) hl
    obtain ⟨y9, y21⟩ := isTaken_9 (t := t) (l := l) x2.W hl
    have T : RD b t mm2 W' (x_takenB m2 b t l) (Int32.ofNat 1, q_isTaken W2 t l, mm2) := ⟨z2, z3, z4, (nv_of y9).trans n92, Or.inl ⟨z1, rfl, rfl, Or.inl ((y21 ht4).trans (f2.2 21 (by omega) (by omega) (by omega)))⟩⟩
    cases zc2 .ge (q_of W' t 3) (W' 1) with
    | true => simp only [cnT]; exact T
    | false =>
      simp only [cnF]
      cases zc2 .lt (W' (20 + l)) (W' 4) with
      | true => simp only [cnT]; exact T
      | false =>
        simp only [cnF]
        obtain ⟨b1, b2, b3⟩ := begun_rx (l := l) h' x' c' ht' hl k.2 e2
        obtain ⟨y9, y21⟩ := begins_9 (t := t) (l := l) x'.W (x'.W.idle ht4 q2)
        exact ⟨b1, b2, b3, nv_of y9, Or.inl ⟨rfl, rfl, rfl, Or.inl y21⟩⟩
theorem takeG_rx {m mm : Nat → Nat → Int32} {b : Nat} {W : Nat → Int32} {t l : Nat} (h : RC m b W) (hx : WX W) (hc : CG m b) (ht : t < nv W 9) (hl : l < 4) (hA : AL W t) (hg : W (376 + 103 * t + 2) = Int32.ofNat 1) : RD b t mm W (x_takeGuessing m b t l) (q_takes mm W t l) := by
  have h4 := hx.W.N4
  have ht4 : t < 4 := by omega
  have w32 := hx.W.lk32 hl
  have r := reads_rx (mm := mm) (w := nv W (16 + l)) h hx hc ht
  have k := KG.reads (m := mm) (t := t) ⟨hx.W, hA⟩ ht4 (Int32.ofNat (nv W (16 + l)))
  have k9 := reads_9 (mm := mm) (t := t) (w := Int32.ofNat (nv W (16 + l))) hx.W ht4
  unfold x_takeGuessing q_takes
  rw [h.lw hl]
  generalize x_reach m b t (nv W (16 + l)) (-1) = P at r ⊢
  generalize q_reads mm W t (Int32.ofNat (nv W (16 + l))) = Q at r k k9 ⊢
  obtain ⟨p0, m'⟩ := P
  obtain ⟨q0, W', mm'⟩ := Q
  obtain ⟨h', x', c', d⟩ := r
  have n9 : nv W' 9 = nv W 9 := nv_of k9
  rcases d with ⟨d1, d2, d3, f⟩ | ⟨d1, d2, d3, -⟩
  rotate_left
  · dsimp only at h' x' c' d1 d2 d3 ⊢
    subst d1
    subst d2
    subst d3
    rw [zne0, cond_false, show zc2 .ne (-1 : Int32) (-1) = false from by decide, cond_false]
    exact ⟨h', x', c', n9, Or.inr (Or.inr ⟨rfl, rfl, rfl⟩)⟩
  dsimp only at h' x' c' d1 d2 d3 f k ⊢
  subst d1
  subst d2
  subst d3
  rw [zn1, cond_true, show zc2 .ne (Int32.ofNat 1) (-1) = true from by decide, cond_true]
  have e2 : W' (376 + 103 * t + 2) = Int32.ofNat 1 := (f.2 2 (by omega) (by omega) (by omega)).trans hg
  have e21 : W' (376 + 103 * t + 21) = W (376 + 103 * t + 21) := f.2 21 (by omega) (by omega) (by omega)
  have ht' : t < nv W' 9 := by omega
  refine RD.of (V := W') ?_ n9 e21
  obtain ⟨p1, -, -⟩ := place_rx (l := Int32.ofNat l) h' x' ht'
  have q2 : zc2 .ne (q_of W' t 2) (Int32.ofNat 1) = false := decide_eq_false (fun z => z e2)
  have F : ∀ g : Int32, q_takesC mm' W' t l (nv W (16 + l)) g = bif zc2 .eq (q_placeLeft W' t (Int32.ofNat l)) (-1) then (bif zc1 .eq g then (Int32.ofNat 0, (q_itFalls mm' W' t 4).1, (q_itFalls mm' W' t 4).2) else (bif zc2 .lt (Int32.ofNat (nv W' (376 + 103 * t + 10))) (Int32.ofNat (nv W' 2)) then (Int32.ofNat 1, q_leavesOut W' t l, mm') else ((q_writes mm' W' t (nv W (16 + l)) (Int32.ofNat 1)).1, (q_writes mm' W' t (nv W (16 + l)) (Int32.ofNat 1)).2.1, (q_writes mm' W' t (nv W (16 + l)) (Int32.ofNat 1)).2.2))) else (Int32.ofNat 0, (q_itFalls mm' W' t 2).1, (q_itFalls mm' W' t 2).2) := by
    intro g
    unfold q_takesC q_takesD
    rw [q2, cond_false, zne2_n, zne_n]
    cases zc2 .eq (q_placeLeft W' t (Int32.ofNat l)) (-1) <;> cases zc1 .eq g <;> simp only [cnT, cnF, Bool.not_true, Bool.not_false]
  unfold x_takeGB q_takesB
  rw [F, F, p1, zne_n, seen_eq h' x' ht' w32]
  cases zc2 .eq (q_placeLeft W' t (Int32.ofNat l)) (-1) with
  | false =>
    simp only [cnF]
    cases zc1 .eq (q_seen W' t (nv W (16 + l))) with
    | true => simp only [cnF, Bool.not_true]; exact RD.fell h' x' c' ht' (by omega) e2
    | false => simp only [cnT, Bool.not_false]; exact RD.fell h' x' c' ht' (by omega) e2
  | true =>
    simp only [cnT]
    cases zc1 .eq (q_seen W' t (nv W (16 + l))) with
    | false =>
      simp only [Bool.not_false, cnT, cnF]
      rw [zeq0, cond_true]
      exact RD.fell h' x' c' ht' (by omega) e2
    | true =>
      simp only [Bool.not_true, cnT, cnF]
      rw [zeq1', cond_false]
      have o10 := (x'.W.2 t ht4).2.1
      have o2 := x'.W.1.2.1
      have g5 : m' (b + 14 + 7 * t) 5 = W' (376 + 103 * t + 10) := h'.left ht4 ht'
      have g2 : m' (b + 3) 2 = W' 2 := h'.glob (k := 2) (by omega) (by omega)
      rw [g5, g2, zge_n, ← o10.1, ← o2.1]
      cases hlt : zc2 .lt (W' (376 + 103 * t + 10)) (W' 2) with
      | true =>
        simp only [Bool.not_true, cnT, cnF]
        have hq : nv W' (376 + 103 * t + 10) < 4 := by
          rw [o10.1, o2.1] at hlt
          have a := zlt_t (by have := o10.2.2; omega) (by have := o2.2.2; omega) hlt
          have c := o2.2.2
          omega
        obtain ⟨b1, b2, b3⟩ := leavesOut_rx (l := l) h' x' c' ht' hl k.2 e2 hq
        refine ⟨b1, b2, b3, ?_, Or.inl ⟨rfl, rfl, rfl, Or.inl ?_⟩⟩
        · show nv (q_leavesOut W' t l) 9 = _
          apply nv_of
          unfold q_leavesOut
          rw [upd_ne _ _ (by omega), upd_ne _ _ (by omega)]
        · show q_leavesOut W' t l _ = _
          unfold q_leavesOut
          rw [upd_ne _ _ (by omega), upd_ne _ _ (by omega)]
      | false =>
        simp only [Bool.not_false, cnT, cnF]
        exact (writes_rx (mm := mm') (w := nv W (16 + l)) (v := Int32.ofNat 1) h' x' c' ht' w32 (by decide)).d (writes_9 x'.W ht4)
end
section
/-! drops alike -/
theorem upd_self (W : Nat → Int32) (k : Nat) : upd W k (W k) = W := by
  funext j
  by_cases e : j = k
  · rw [e, upd_at]
  · rw [upd_ne _ _ e]
theorem ends_congr {V Z : Nat → Int32} {t : Nat} (e : ∀ j, j ≠ 376 + 103 * t + 10 → V j = Z j) : q_ends V t = q_ends Z t := by
  funext j
  unfold q_ends
  by_cases c1 : j = 376 + 103 * t + 17
  · rw [c1, upd_at, upd_at]
  · rw [upd_ne _ _ c1, upd_ne _ _ c1]
    by_cases c2 : j = 376 + 103 * t + 16
    · rw [c2, upd_at, upd_at]
    · rw [upd_ne _ _ c2, upd_ne _ _ c2]
      by_cases c3 : j = 376 + 103 * t + 15
      · rw [c3, upd_at, upd_at]
      · rw [upd_ne _ _ c3, upd_ne _ _ c3]
        by_cases c4 : j = 376 + 103 * t + 10
        · rw [c4, upd_at, upd_at]
        · rw [upd_ne _ _ c4, upd_ne _ _ c4]
          by_cases c5 : j = 376 + 103 * t + 2
          · rw [c5, upd_at, upd_at]
          · rw [upd_ne _ _ c5, upd_ne _ _ c5]
            exact e j c4
theorem isKept_congr {t l : Nat} (hl : l < 4) : ∀ (n k : Nat) (V Z : Nat → Int32), k + n = 32 → (∀ j, j ≠ 376 + 103 * t + 10 → V j = Z j) → l_isKept t l n k V = l_isKept t l n k Z := by
  intro n
  induction n with
  | zero =>
    intro k V Z hk e
    rw [l_isKept, l_isKept]
    refine congrArg (fun X => q_logs X (Int32.ofNat t) (Int32.ofNat 1) (Int32.ofNat l)) (ends_congr (fun j hj => ?_))
    have e5 := e 5 (by omega)
    have e20 := e (20 + l) (by omega)
    have e28 := e (28 + l) (by omega)
    have e4 := e (376 + 103 * t + 4) (by omega)
    rw [e5, e20]
    simp (disch := omega) only [upd_ne]
    rw [e28, e4]
    by_cases c1 : j = 376 + 103 * t + 4
    · rw [c1, upd_at, upd_at]
    · rw [upd_ne _ _ c1, upd_ne _ _ c1]
      by_cases c2 : j = 376 + 103 * t + 3
      · rw [c2, upd_at, upd_at]
      · rw [upd_ne _ _ c2, upd_ne _ _ c2]
        by_cases c3 : j = 28 + l
        · rw [c3, upd_at, upd_at]
        · rw [upd_ne _ _ c3, upd_ne _ _ c3]
          by_cases c4 : j = 20 + l
          · rw [c4, upd_at, upd_at]
          · rw [upd_ne _ _ c4, upd_ne _ _ c4]
            exact e j hj
  | succ n ih =>
    intro k V Z hk e
    rw [l_isKept, l_isKept]
    have e17 : q_of V t 17 = q_of Z t 17 := e _ (by omega)
    have ev : q_of V t (23 + k) = q_of Z t (23 + k) := e _ (by omega)
    rw [e17, ev, ih (k + 1) V Z (by omega) e, ih (k + 1) (upd V (32 + k) (q_of Z t (23 + k))) (upd Z (32 + k) (q_of Z t (23 + k))) (by omega) (fun j hj => by
      by_cases c : j = 32 + k
      · rw [c, upd_at, upd_at]
      · rw [upd_ne _ _ c, upd_ne _ _ c]
        exact e j hj)]
/-- the end of a guess that is kept -/
theorem kept0_rx {m : Nat → Nat → Int32} {b : Nat} {W : Nat → Int32} {t l : Nat} (h : RC m b W) (hw : WG W) (hT : TB W) (h5 : ok W 5 0 9) (h8 : ok W 8 0 1) (hX : ∀ u, u < 4 → u ≠ t → WXt W u) (hk : WKt W t) (hc : CG m b) (ht : t < nv W 9) (hl : l < 4) (hA : AL W t) : RC (xl_keep b t l 0 32 m) b (l_isKept t l 0 32 W) ∧ WX (l_isKept t l 0 32 W) := by
  have h4 := hw.N4
  have ht4 : t < 4 := by omega
  have C := hw.C
  have g6 : m (b + 10 + 7 * t) 6 = W (376 + 103 * t + 4) := h.cellS ht4 (by omega) (cnd0 ht (by omega)) rfl
  have g5 : m (b + 3) 5 = W 5 := h.glob (k := 5) (by omega) (by omega)
  have g7 : m b 7 = W 11 := h.glob (k := 11) (by omega) (by omega)
  have l1 : m (b + 5 + l) 1 = W (20 + l) := h.lkR (k := 20 + l) (by omega) (by omega) (cm_20 hl)
  have l3 : m (b + 5 + l) 3 = W (28 + l) := h.lkR (k := 28 + l) (by omega) (by omega) (cm_28 hl)
  have s1 := h.ends C ht4
  have C1 : WC (q_ends W t) := WC_of (by simp (disch := omega) only [q_ends, upd_ne]) C
  have s2 := s1.thS (c := 3) (o := 10) (s := 5) (x := Int32.ofNat 0) C1 ht4 (by omega) (by omega) rfl
  have C2 : WC (upd (q_ends W t) (376 + 103 * t + 3) (Int32.ofNat 0)) := WC_of (upd_ne _ _ (by omega)) C1
  have s3 := s2.thS (c := 4) (o := 10) (s := 6) (x := W (376 + 103 * t + 4) + Int32.ofNat 1) C2 ht4 (by omega) (by omega) rfl
  have C3 : WC (upd (upd (q_ends W t) (376 + 103 * t + 3) (Int32.ofNat 0)) (376 + 103 * t + 4) (W (376 + 103 * t + 4) + Int32.ofNat 1)) := WC_of (upd_ne _ _ (by omega)) C2
  have s4 := s3.lkS (k := 20 + l) (x := if W (20 + l) + W 5 < Int32.ofNat 15 then W (20 + l) + W 5 else Int32.ofNat 15) C3 (by omega) (by omega) (by omega) (cm_20 hl)
  have C4 : WC (upd (upd (upd (q_ends W t) (376 + 103 * t + 3) (Int32.ofNat 0)) (376 + 103 * t + 4) (W (376 + 103 * t + 4) + Int32.ofNat 1)) (20 + l) (if W (20 + l) + W 5 < Int32.ofNat 15 then W (20 + l) + W 5 else Int32.ofNat 15)) := WC_of (upd_ne _ _ (by omega)) C3
  have s5 := s4.lkS (k := 28 + l) (x := W (28 + l) + Int32.ofNat 1) C4 (by omega) (by omega) (by omega) (cm_28 hl)
  have C5 : WC (upd (upd (upd (upd (q_ends W t) (376 + 103 * t + 3) (Int32.ofNat 0)) (376 + 103 * t + 4) (W (376 + 103 * t + 4) + Int32.ofNat 1)) (20 + l) (if W (20 + l) + W 5 < Int32.ofNat 15 then W (20 + l) + W 5 else Int32.ofNat 15)) (28 + l) (W (28 + l) + Int32.ofNat 1)) := WC_of (upd_ne _ _ (by omega)) C4
  have eW : l_isKept t l 0 32 W = q_logs (upd (upd (upd (upd (q_ends W t) (376 + 103 * t + 3) (Int32.ofNat 0)) (376 + 103 * t + 4) (W (376 + 103 * t + 4) + Int32.ofNat 1)) (20 + l) (if W (20 + l) + W 5 < Int32.ofNat 15 then W (20 + l) + W 5 else Int32.ofNat 15)) (28 + l) (W (28 + l) + Int32.ofNat 1)) (Int32.ofNat t) (Int32.ofNat 1) (Int32.ofNat l) := by
    rw [l_isKept]
    refine congrArg (fun X => q_logs X (Int32.ofNat t) (Int32.ofNat 1) (Int32.ofNat l)) ?_
    simp (disch := omega) only [upd_ne]
    funext j
    unfold q_ends
    by_cases c1 : j = 376 + 103 * t + 17
    · subst c1
      simp (disch := omega) only [upd_at, upd_ne]
    · by_cases c2 : j = 376 + 103 * t + 16
      · subst c2
        simp (disch := omega) only [upd_at, upd_ne]
      · by_cases c3 : j = 376 + 103 * t + 15
        · subst c3
          simp (disch := omega) only [upd_at, upd_ne]
        · by_cases c4 : j = 376 + 103 * t + 10
          · subst c4
            simp (disch := omega) only [upd_at, upd_ne]
          · by_cases c5 : j = 376 + 103 * t + 2
            · subst c5
              simp (disch := omega) only [upd_at, upd_ne]
            · by_cases c6 : j = 376 + 103 * t + 4
              · subst c6
                simp (disch := omega) only [upd_at, upd_ne]
              · by_cases c7 : j = 376 + 103 * t + 3
                · subst c7
                  simp (disch := omega) only [upd_at, upd_ne]
                · by_cases c8 : j = 28 + l
                  · subst c8
                    simp (disch := omega) only [upd_at, upd_ne]
                  · by_cases c9 : j = 20 + l
                    · subst c9
                      simp (disch := omega) only [upd_at, upd_ne]
                    · simp (disch := omega) only [upd_ne]
  have eM : xl_keep b t l 0 32 m = x_logAdd (zm2 (zm2 (zm2 (zm2 (x_close m b t) (b + 10 + 7 * t) 5 (Int32.ofNat 0)) (b + 10 + 7 * t) 6 (W (376 + 103 * t + 4) + Int32.ofNat 1)) (b + 5 + l) 1 (if W (20 + l) + W 5 < Int32.ofNat 15 then W (20 + l) + W 5 else Int32.ofNat 15)) (b + 5 + l) 3 (W (28 + l) + Int32.ofNat 1)) b (W 11) (Int32.ofNat t) (Int32.ofNat 1) (Int32.ofNat l) := by
    rw [xl_keep]
    simp (disch := omega) only [xgain_eq, zx_ne, zx_nk, close_ne, g6, g5, l1, l3, g7]
  rw [eM, eW]
  have g11 : upd (upd (upd (upd (q_ends W t) (376 + 103 * t + 3) (Int32.ofNat 0)) (376 + 103 * t + 4) (W (376 + 103 * t + 4) + Int32.ofNat 1)) (20 + l) (if W (20 + l) + W 5 < Int32.ofNat 15 then W (20 + l) + W 5 else Int32.ofNat 15)) (28 + l) (W (28 + l) + Int32.ofNat 1) 11 = W 11 := by simp (disch := omega) only [q_ends, upd_ne]
  have r := s5.log (t := Int32.ofNat t) (w := Int32.ofNat 1) (v := Int32.ofNat l) C5 (zxb (by simp (disch := omega) only [close_ne, zx_ne]) hc.n60)
  rw [g11] at r
  refine ⟨r, ?_⟩
  have w0 : WG (upd (upd (upd (upd (q_ends W t) (376 + 103 * t + 3) (Int32.ofNat 0)) (376 + 103 * t + 4) (W (376 + 103 * t + 4) + Int32.ofNat 1)) (20 + l) (if W (20 + l) + W 5 < Int32.ofNat 15 then W (20 + l) + W 5 else Int32.ofNat 15)) (28 + l) (W (28 + l) + Int32.ofNat 1)) := ((((hw.ends ht4).put _ (fre_at ht4 (by omega) (by unfold cT; omega))).put _ (fre_at ht4 (by omega) (by unfold cT; omega))).put _ (fre_lo (by omega) (by omega))).put _ (fre_lo (by omega) (by omega))
  refine WX.logs (WX.mk w0 ⟨?_, fun k hk => ?_⟩ ?_ ?_ (fun u hu => ?_)) _ _ _
  · refine hT.1.of ?_
    simp (disch := omega) only [q_ends, upd_ne]
  · by_cases q : k = l
    · subst q
      obtain ⟨n, n1, n2⟩ := gain_b (hT.2 k hk).2.2 h5.2.2
      rw [← (hT.2 k hk).1, ← h5.1] at n2
      refine ok.is (n := n) ?_ (by omega) n1 (by omega)
      rw [upd_ne _ _ (by omega), upd_at]
      exact n2
    · refine (hT.2 k hk).of ?_
      simp (disch := omega) only [q_ends, upd_ne]
  · refine h5.of ?_
    simp (disch := omega) only [q_ends, upd_ne]
  · refine h8.of ?_
    simp (disch := omega) only [q_ends, upd_ne]
  · by_cases q : u = t
    · subst q
      refine ⟨fun _ => ⟨?_, ?_, ?_⟩, fun e => ?_, hk.of hw hu ?_ ?_ ?_ (fun p hp => ?_)⟩
      · unfold q_ends
        simp (disch := omega) only [upd_ne, upd_at]
      · unfold q_ends
        simp (disch := omega) only [upd_ne, upd_at]
      · unfold q_ends
        simp (disch := omega) only [upd_ne, upd_at]
      · exfalso
        unfold q_ends at e
        simp (disch := omega) only [upd_ne, upd_at] at e
        exact absurd e (by decide)
      · simp (disch := omega) only [q_ends, upd_ne]
      · simp (disch := omega) only [q_ends, upd_ne]
      · simp (disch := omega) only [q_ends, upd_ne]
      · simp (disch := omega) only [q_ends, upd_ne]
    · refine (hX u hu q).of hw hu (fun c hc _ => ?_)
      simp (disch := omega) only [q_ends, upd_ne]
theorem keepL_rx {b t l : Nat} (hl : l < 4) (ht4 : t < 4) : ∀ (n k : Nat) (m : Nat → Nat → Int32) (W : Nat → Int32), k + n = 32 → RC m b W → WG W → TB W → ok W 5 0 9 → ok W 8 0 1 → (∀ u, u < 4 → u ≠ t → WXt W u) → WKt W t → CG m b → t < nv W 9 → AL W t → W (376 + 103 * t + 2) = Int32.ofNat 1 → RC (xl_keep b t l n k m) b (l_isKept t l n k W) ∧ WX (l_isKept t l n k W) := by
  intro n
  induction n with
  | zero =>
    intro k m W hk h hw hT h5 h8 hX hK hc ht hA hg
    have : k = 32 := by omega
    subst this
    exact kept0_rx h hw hT h5 h8 hX hK hc ht hl hA
  | succ n ih =>
    intro k m W hk h hw hT h5 h8 hX hK hc ht hA hg
    have h4 := hw.N4
    have g1 : m (b + 1) k = W (32 + k) := h.globR (by omega) (by omega) (cm_w (by omega))
    have g9 : m (b + 14 + 7 * t) 9 = W (376 + 103 * t + 17) := h.cellS ht4 (by omega) (cnd0 ht (by omega)) rfl
    have es : x_seenBy m b t k = bif zc1 .eq (q_holds (W (376 + 103 * t + 17)) k) then W (32 + k) else W (376 + 103 * t + (23 + k)) := by
      unfold x_seenBy x_hasValue
      rw [h.gs ht4 ht, hg, zeq1', cond_false, g1, g9, bit_eq]
      cases hb : zc1 .eq (q_holds (W (376 + 103 * t + 17)) k) with
      | true => rw [cond_true, zeq0, cond_true, cond_true]
      | false =>
        rw [cond_false, zeq1', cond_false, cond_false]
        rw [rb_k (by omega)] at hb
        have hh : hbit (W (376 + 103 * t + 17)) k := (hbit_rb (by omega)).mpr (by
          cases hr : rbt (W (376 + 103 * t + 17)) k with
          | true => rfl
          | false => rw [hr] at hb; exact absurd hb (by decide))
        exact h.cellS (c := 23 + k) ht4 (by omega) ⟨ht, fun q => by omega, fun q => by omega, fun _ => by rw [show 23 + k - 23 = k by omega]; exact hh, fun q => by omega⟩ (cmT_v (by omega))
    have r := h.globS (k := 32 + k) (o := 1) (s := k) (x := x_seenBy m b t k) hw.C (by omega) (by omega) (by omega) (cm_w (by omega))
    have eW : l_isKept t l (n + 1) k W = l_isKept t l n (k + 1) (upd W (32 + k) (x_seenBy m b t k)) := by
      rw [l_isKept, es]
      have q17 : q_of W t 17 = W (376 + 103 * t + 17) := rfl
      rw [q17]
      cases zc1 .eq (q_holds (W (376 + 103 * t + 17)) k) with
      | true => rw [cond_true, cond_true, upd_self]
      | false => rfl
    rw [xl_keep, eW]
    have u : ∀ j, j ≠ 32 + k → upd W (32 + k) (x_seenBy m b t k) j = W j := fun j hj => upd_ne _ _ hj
    refine ih _ _ _ (by omega) r (hw.put _ (fre_lo (by omega) (by omega))) (hT.of (fun j hj => u j (by omega))) (h5.of (u _ (by omega))) (h8.of (u _ (by omega))) (fun v hv hvt => (hX v hv hvt).of hw hv (fun c hc _ => u _ (by omega))) (hK.of hw ht4 (u _ (by omega)) (u _ (by omega)) (u _ (by omega)) (fun p hp => u _ (by omega))) (hc.put _ ncW) (by rw [nv_of (u 9 (by omega))]; exact ht) (hA.of (u _ (by omega)) (u _ (by omega))) ((u _ (by omega)).trans hg)
theorem isKept_9 {t l : Nat} (hl : l < 4) : ∀ (n k : Nat) (W : Nat → Int32), k + n = 32 → WC W → l_isKept t l n k W 9 = W 9 ∧ l_isKept t l n k W (376 + 103 * t + 21) = W (376 + 103 * t + 21) := by
  intro n
  induction n with
  | zero =>
    intro k W _ C
    rw [l_isKept]
    constructor
    · rw [logs_fr (WC_of (by simp (disch := omega) only [q_ends, upd_ne]) C) (by omega) (by omega)]
      simp (disch := omega) only [q_ends, upd_ne]
    · rw [logs_fr (WC_of (by simp (disch := omega) only [q_ends, upd_ne]) C) (by omega) (by omega)]
      simp (disch := omega) only [q_ends, upd_ne]
  | succ n ih =>
    intro k W hk C
    rw [l_isKept]
    cases zc1 .eq (q_holds (q_of W t 17) k) with
    | true => exact ih _ _ (by omega) C
    | false =>
      obtain ⟨a, c⟩ := ih (k + 1) (upd W (32 + k) (q_of W t (23 + k))) (by omega) (WC_of (upd_ne _ _ (by omega)) C)
      exact ⟨a.trans (upd_ne _ _ (by omega)), c.trans (upd_ne _ _ (by omega))⟩
theorem drop_rx {m mm : Nat → Nat → Int32} {b : Nat} {W : Nat → Int32} {t l : Nat} (h : RC m b W) (hx : WX W) (hc : CG m b) (ht : t < nv W 9) (hl : l < 4) (hA : AL W t) : RD b t mm W (x_dropLock m b t l) (q_drops mm W t l) := by
  have h4 := hx.W.N4
  have ht4 : t < 4 := by omega
  have w32 := hx.W.lk32 hl
  have hwr := writes_rx (mm := mm) (w := nv W (16 + l)) (v := Int32.ofNat 0) h hx hc ht w32 (by decide)
  have hw9 := writes_9 (mm := mm) (t := t) (w := nv W (16 + l)) (v := Int32.ofNat 0) hx.W ht4
  have g0 := h.gs ht4 ht
  obtain ⟨p1, p2, p3⟩ := place_rx (l := Int32.ofNat l) h hx ht
  unfold x_dropLock q_drops
  rw [h.lw hl, g0, zne2_n (q_placeLeft W t (Int32.ofNat l)) (-1), p1]
  rcases hx.W.g01 ht4 with e | e
  · -- not guessing: nothing is left out
    have q10 : W (376 + 103 * t + 10) = Int32.ofNat 0 := (hx.W.2 t ht4).2.2.2.2.2.2.1 e
    have n10 : nv W (376 + 103 * t + 10) = 0 := by unfold nv; rw [q10, nv_on (by omega)]
    have pl : q_placeLeft W t (Int32.ofNat l) = -1 := by
      unfold q_placeLeft
      rw [n10]
      rfl
    have q2 : zc2 .ne (q_of W t 2) (Int32.ofNat 1) = true := decide_eq_true (by show ¬ W (376 + 103 * t + 2) = Int32.ofNat 1; rw [e]; decide)
    rw [e, zeq0, cond_true, pl, show zc2 .eq (-1 : Int32) (-1) = true from by decide, Bool.not_true, cond_false, q2, cond_true]
    generalize x_reach m b t (nv W (16 + l)) (Int32.ofNat 0) = P at hwr ⊢
    generalize q_writes mm W t (nv W (16 + l)) (Int32.ofNat 0) = Q at hwr hw9 ⊢
    obtain ⟨pp, m'⟩ := P
    obtain ⟨qq, W', mm'⟩ := Q
    obtain ⟨h', x', c', d⟩ := hwr
    rcases d with ⟨d1, d2, d3, f⟩ | ⟨-, -, -, d4⟩
    rotate_left
    · rw [e] at d4
      exact absurd d4 (by decide)
    dsimp only at h' x' c' d1 d2 d3 f hw9 ⊢
    subst d1
    subst d2
    subst d3
    have n9 : nv W' 9 = nv W 9 := nv_of hw9
    have e2 : W' (376 + 103 * t + 2) = Int32.ofNat 0 := (f.2 2 (by omega) (by omega) (by omega)).trans e
    have g7 : m' b 7 = W' 11 := h'.glob (k := 11) (by omega) (by omega)
    rw [zn1, cond_true, show zc2 .ne (Int32.ofNat 1) (Int32.ofNat 1) = false from by decide, cond_false, h'.gs ht4 (by omega), e2, zne0, cond_false, g7]
    refine ⟨h'.log x'.W.C c'.n60, x'.logs _ _ _, c'.logAdd _ _ _ _, ?_, Or.inl ⟨rfl, rfl, rfl, Or.inl ?_⟩⟩
    · exact (nv_of (logs_fr x'.W.C (by omega) (by omega))).trans n9
    · exact (logs_fr x'.W.C (by omega) (by omega)).trans (f.2 21 (by omega) (by omega) (by omega))
  · have q2 : zc2 .ne (q_of W t 2) (Int32.ofNat 1) = false := decide_eq_false (fun z => z e)
    rw [e, zeq1', cond_false, q2, cond_false]
    cases hp : zc2 .eq (q_placeLeft W t (Int32.ofNat l)) (-1) with
    | true =>
      simp only [cnT, cnF, Bool.not_true]
      generalize x_reach m b t (nv W (16 + l)) (Int32.ofNat 0) = P at hwr ⊢
      generalize q_writes mm W t (nv W (16 + l)) (Int32.ofNat 0) = Q at hwr hw9 ⊢
      obtain ⟨pp, m'⟩ := P
      obtain ⟨qq, W', mm'⟩ := Q
      have D := hwr.d hw9
      obtain ⟨h', x', c', d⟩ := hwr
      rcases d with ⟨d1, d2, d3, f⟩ | ⟨d1, d2, d3, -⟩
      · dsimp only at h' x' c' d1 d2 d3 f hw9 D ⊢
        subst d1
        subst d2
        subst d3
        have n9 : nv W' 9 = nv W 9 := nv_of hw9
        have e2 : W' (376 + 103 * t + 2) = Int32.ofNat 1 := (f.2 2 (by omega) (by omega) (by omega)).trans e
        rw [zn1, cond_true, show zc2 .ne (Int32.ofNat 1) (Int32.ofNat 1) = false from by decide, cond_false, h'.gs ht4 (by omega), e2, zn1, cond_true]
        exact D
      · dsimp only at h' x' c' d1 d2 d3 hw9 D ⊢
        subst d1
        subst d2
        subst d3
        rw [zne0, cond_false, show zc2 .ne (-1 : Int32) (Int32.ofNat 1) = true from by decide, cond_true]
        exact D
    | false =>
      simp only [cnT, cnF, Bool.not_false]
      have n1 := hx.1.2.2.1 t ht4 e
      obtain ⟨o1, o2, o3⟩ := (hx.W.2 t ht4).2.1
      have p2' := p2 n1
      cases hL : zc2 .eq (x_latest m b t) (Int32.ofNat l) with
      | false =>
        rw [p2', hL]
        exact RD.fell h hx hc ht (by omega) e
      | true =>
        rw [p2', hL]
        rw [hL] at p2'
        have ep : q_placeLeft W t (Int32.ofNat l) = Int32.ofNat (nv W (376 + 103 * t + 10) - 1) := by
          rw [of_decide_eq_true p2', show q_of W t 10 = Int32.ofNat (nv W (376 + 103 * t + 10)) from o1, i_sub n1]
        have ev : W (376 + 103 * t + 10) - Int32.ofNat 1 = Int32.ofNat (nv W (376 + 103 * t + 10) - 1) := by
          rw [← i_sub n1, ← o1]
        simp only [cnT]
        rw [h.left ht4 ht, ev, ep, zx_at]
        by_cases n2 : nv W (376 + 103 * t + 10) = 1
        · rw [n2, show 1 - 1 = 0 from rfl, zne0, cond_false, cond_false]
          have r0 := h.q1 (t := t) (n := 0) (x := Int32.ofNat 0) hx.W.C ht4 rfl (by omega) (fun j hj => absurd hj (Nat.not_lt_zero _))
          have u : ∀ j, j ≠ 376 + 103 * t + 10 → upd W (376 + 103 * t + 10) (Int32.ofNat 0) j = W j := fun j hj => upd_ne _ _ hj
          have k0 := KG.qty (n := 0) ⟨hx.W, hA⟩ ht4 (by omega) (by rw [e]; decide)
          have kk := keepL_rx (b := b) (t := t) (l := l) hl ht4 32 0 (zm2 m (b + 14 + 7 * t) 5 (Int32.ofNat 0)) (upd W (376 + 103 * t + 10) (Int32.ofNat 0)) rfl r0 k0.1 (hx.1.2.2.2.of (fun j hj => u j (by omega))) (hx.2.1.of (u _ (by omega))) (hx.2.2.1.of (u _ (by omega))) (fun v hv hvt => (hx.T hv).of hx.W hv (fun c hc _ => u _ (by omega))) ((hx.2.2.2 t ht4).of hx.W ht4 (u _ (by omega)) (u _ (by omega)) (u _ (by omega)) (fun p hp => u _ (by omega))) (hc.setq ht4 (by omega)) (by rw [nv_of (u 9 (by omega))]; exact ht) k0.2 ((u _ (by omega)).trans e)
          rw [isKept_congr hl 32 0 _ W rfl u] at kk
          obtain ⟨i9, i21⟩ := isKept_9 (t := t) hl 32 0 W rfl hx.W.C
          exact ⟨kk.1, kk.2, (hc.setq ht4 (by omega)).keep ht4 hl, nv_of i9, Or.inl ⟨rfl, rfl, rfl, Or.inl i21⟩⟩
        · have z : ∀ k, k < 4 → 1 ≤ k → zc1 .ne (Int32.ofNat k) = true := by decide +kernel
          rw [z _ (by omega) (by omega), cond_true, cond_true]
          have u : ∀ j, j ≠ 376 + 103 * t + 10 → upd W (376 + 103 * t + 10) (Int32.ofNat (nv W (376 + 103 * t + 10) - 1)) j = W j := fun j hj => upd_ne _ _ hj
          have k0 := KG.qty (n := nv W (376 + 103 * t + 10) - 1) ⟨hx.W, hA⟩ ht4 (by omega) (by rw [e]; decide)
          refine ⟨h.q1 (t := t) hx.W.C ht4 rfl (by omega) (fun j hj => h.lo ht4 ht (by omega) (by omega)), hx.one ht4 k0.1 (fun k hk => u k (by omega)) (fun v hv hvt c hc => u _ (by omega)) ⟨fun q => ?_, fun _ => ?_, (hx.2.2.2 t ht4).of hx.W ht4 (u _ (by omega)) (u _ (by omega)) (u _ (by omega)) (fun p hp => u _ (by omega))⟩, hc.setq ht4 (by omega), nv_of (u 9 (by omega)), Or.inl ⟨rfl, rfl, rfl, Or.inl (u _ (by omega))⟩⟩
          · dsimp only at q
            rw [u _ (by omega), e] at q
            exact absurd q (by decide)
          · dsimp only
            show 1 ≤ (upd W (376 + 103 * t + 10) (Int32.ofNat (nv W (376 + 103 * t + 10) - 1)) (376 + 103 * t + 10)).toNatClampNeg
            rw [upd_at, nv_on (by omega)]
            omega
end
section
/-! the other deeds, and a step as a whole -/
theorem get_rx {m mm : Nat → Nat → Int32} {b : Nat} {W : Nat → Int32} {t w : Nat} (h : RC m b W) (hx : WX W) (hc : CG m b) (ht : t < nv W 9) (hw : w < 32) : RD b t mm W (x_getWord m b t w) (q_does2 mm W t w) := by
  have h4 := hx.W.N4
  have ht4 : t < 4 := by omega
  have r := reads_rx (mm := mm) (w := w) h hx hc ht
  have k9 := reads_9 (mm := mm) (t := t) (w := Int32.ofNat w) hx.W ht4
  unfold x_getWord q_does2
  generalize x_reach m b t w (-1) = P at r ⊢
  generalize q_reads mm W t (Int32.ofNat w) = Q at r k9 ⊢
  obtain ⟨p0, m'⟩ := P
  obtain ⟨q0, W', mm'⟩ := Q
  have n9 : nv W' 9 = nv W 9 := nv_of k9
  obtain ⟨h', x', c', d⟩ := r
  rcases d with ⟨d1, d2, d3, f⟩ | ⟨d1, d2, d3, -⟩
  · dsimp only at h' x' c' d1 d2 d3 f ⊢
    subst d1
    subst d2
    subst d3
    rw [zn1, cond_true, show zc2 .ne (Int32.ofNat 1) (Int32.ofNat 1) = false from by decide, cond_false, seen_eq h' x' (by omega) hw]
    exact ⟨h'.thS (c := 1) (o := 10) (s := 4) x'.W.C ht4 (by omega) (by omega) rfl, x'.th ht4 (by omega) (by unfold cT; omega), c'.put _ (ncS ht4), (nv_of (upd_ne _ _ (by omega))).trans n9, Or.inl ⟨rfl, rfl, rfl, Or.inl ((upd_ne _ _ (by omega)).trans (f.2 21 (by omega) (by omega) (by omega)))⟩⟩
  · dsimp only at h' x' c' d1 d2 d3 ⊢
    subst d1
    subst d2
    subst d3
    rw [zne0, cond_false, show zc2 .ne (-1 : Int32) (Int32.ofNat 1) = true from by decide, cond_true]
    exact ⟨h', x', c', n9, Or.inr (Or.inr ⟨rfl, rfl, rfl⟩)⟩
theorem sum_rx {m mm : Nat → Nat → Int32} {b : Nat} {W : Nat → Int32} {t : Nat} {x : Int32} (h : RC m b W) (hx : WX W) (hc : CG m b) (ht : t < nv W 9) : RD b t mm W (Int32.ofNat 1, zm2 m (b + 10 + 7 * t) 4 x) (Int32.ofNat 1, upd W (376 + 103 * t + 1) x, mm) := by
  have h4 := hx.W.N4
  have ht4 : t < 4 := by omega
  exact ⟨h.thS (c := 1) (o := 10) (s := 4) hx.W.C ht4 (by omega) (by omega) rfl, hx.th ht4 (by omega) (by unfold cT; omega), hc.put _ (ncS ht4), nv_of (upd_ne _ _ (by omega)), Or.inl ⟨rfl, rfl, rfl, Or.inl (upd_ne _ _ (by omega))⟩⟩
theorem cm_o {k : Nat} (hk : k < 20) : cm (96 + 2 * k) = (38, k) ∧ cm (96 + 2 * k + 1) = (39, k) := by
  constructor
  · unfold cm
    rw [if_neg (by omega), if_neg (by omega), if_neg (by omega), if_neg (by omega), if_neg (by omega), if_neg (by omega), if_neg (by omega), if_neg (by omega), if_neg (by omega), if_neg (by omega), if_neg (by omega), if_pos (by omega), if_pos (by omega), show (96 + 2 * k - 96) / 2 = k by omega]
  · unfold cm
    rw [if_neg (by omega), if_neg (by omega), if_neg (by omega), if_neg (by omega), if_neg (by omega), if_neg (by omega), if_neg (by omega), if_neg (by omega), if_neg (by omega), if_neg (by omega), if_neg (by omega), if_pos (by omega), if_neg (by omega), show (96 + 2 * k + 1 - 96) / 2 = k by omega]
theorem out_rx {m mm : Nat → Nat → Int32} {b : Nat} {W : Nat → Int32} {t : Nat} (h : RC m b W) (hx : WX W) (hc : CG m b) (ht : t < nv W 9) (hA : AL W t) : RD b t mm W (x_putOut m b t) (q_putsOut mm W t) := by
  have h4 := hx.W.N4
  have ht4 : t < 4 := by omega
  have g0 := h.gs ht4 ht
  have g4 : m (b + 10 + 7 * t) 4 = W (376 + 103 * t + 1) := h.cellS ht4 (by omega) (cnd0 ht (by omega)) rfl
  have g7 : m b 7 = W 11 := h.glob (k := 11) (by omega) (by omega)
  have g12 : m b 12 = W 14 := h.glob (k := 14) (by omega) (by omega)
  have e12 : mv m b 12 = nv W 14 := by unfold mv nv; rw [g12]
  have q1 : q_of W t 1 = W (376 + 103 * t + 1) := rfl
  unfold x_putOut q_putsOut
  rw [g0, e12, q1]
  rcases hx.W.g01 ht4 with e | e
  · have q2 : zc2 .ne (q_of W t 2) (Int32.ofNat 1) = true := decide_eq_true (by show ¬ W (376 + 103 * t + 2) = Int32.ofNat 1; rw [e]; decide)
    rw [e, zeq0, cond_true, q2, cond_true]
    cases hz : zc2 .ge (Int32.ofNat (nv W 14)) (Int32.ofNat 20) with
    | true =>
      simp only [cnT]
      rw [g4, g7]
      exact ⟨h.log hx.W.C hc.n60, hx.logs _ _ _, hc.logAdd _ _ _ _, nv_of (logs_fr hx.W.C (by omega) (by omega)), Or.inl ⟨rfl, rfl, rfl, Or.inl (logs_fr hx.W.C (by omega) (by omega))⟩⟩
    | false =>
      simp only [cnF]
      have o14 := hx.W.1.2.2.2.2.1
      have h20 : nv W 14 < 20 := by
        rw [zge_n] at hz
        cases hq : zc2 .lt (Int32.ofNat (nv W 14)) (Int32.ofNat 20) with
        | true => exact zlt_t (by have := o14.2.2; omega) (by omega) hq
        | false => rw [hq] at hz; exact absurd hz (by decide)
      obtain ⟨c38, c39⟩ := cm_o h20
      have C := hx.W.C
      have s1 := h.globS (k := 96 + 2 * nv W 14) (x := Int32.ofNat t) C (by omega) (by omega) (by omega) c38
      have C1 := WC_of (V := upd W (96 + 2 * nv W 14) (Int32.ofNat t)) (upd_ne _ _ (by omega)) C
      have s2 := s1.globS (k := 96 + 2 * nv W 14 + 1) (x := W (376 + 103 * t + 1)) C1 (by omega) (by omega) (by omega) c39
      have C2 := WC_of (V := upd (upd W (96 + 2 * nv W 14) (Int32.ofNat t)) (96 + 2 * nv W 14 + 1) (W (376 + 103 * t + 1))) (upd_ne _ _ (by omega)) C1
      have s3 := s2.globS (k := 14) (o := 0) (s := 12) (x := W 14 + Int32.ofNat 1) C2 (by omega) (by omega) (by omega) rfl
      have C3 := WC_of (V := upd (upd (upd W (96 + 2 * nv W 14) (Int32.ofNat t)) (96 + 2 * nv W 14 + 1) (W (376 + 103 * t + 1))) 14 (W 14 + Int32.ofNat 1)) (upd_ne _ _ (by omega)) C2
      simp (disch := omega) only [zx_ne, zx_nk, q_of, upd_ne]
      rw [g4, g7, g12]
      rw [Nat.add_zero] at s3
      have r := s3.log (t := Int32.ofNat t) (w := Int32.ofNat 5) (v := W (376 + 103 * t + 1)) C3 (zxb (by simp (disch := omega) only [zx_ne]) hc.n60)
      rw [show upd (upd (upd W (96 + 2 * nv W 14) (Int32.ofNat t)) (96 + 2 * nv W 14 + 1) (W (376 + 103 * t + 1))) 14 (W 14 + Int32.ofNat 1) 11 = W 11 by simp (disch := omega) only [upd_ne]] at r
      have ev : W 14 + Int32.ofNat 1 = Int32.ofNat (nv W 14 + 1) := by rw [← i_add, ← o14.1]
      have x1 : WX (upd W (96 + 2 * nv W 14) (Int32.ofNat t)) := hx.glob (by omega) (by omega) (by omega)
      have x2 : WX (upd (upd W (96 + 2 * nv W 14) (Int32.ofNat t)) (96 + 2 * nv W 14 + 1) (W (376 + 103 * t + 1))) := x1.glob (by omega) (by omega) (by omega)
      have k2 : KG (upd (upd W (96 + 2 * nv W 14) (Int32.ofNat t)) (96 + 2 * nv W 14 + 1) (W (376 + 103 * t + 1))) t := ⟨x2.W, hA.of (by simp (disch := omega) only [upd_ne]) (by simp (disch := omega) only [upd_ne])⟩
      have x3 : WX (upd (upd (upd W (96 + 2 * nv W 14) (Int32.ofNat t)) (96 + 2 * nv W 14 + 1) (W (376 + 103 * t + 1))) 14 (W 14 + Int32.ofNat 1)) := by
        refine WX.mk ?_ (x2.1.2.2.2.of (fun j hj => upd_ne _ _ (by omega))) (x2.2.1.of (upd_ne _ _ (by omega))) (x2.2.2.1.of (upd_ne _ _ (by omega))) (fun u hu => (x2.T hu).of x2.W hu (fun c hc _ => upd_ne _ _ (by omega)))
        rw [ev]
        exact (k2.outs (by omega)).1
      refine ⟨r, x3.logs _ _ _, ?_, ?_, Or.inl ⟨rfl, rfl, rfl, Or.inl ?_⟩⟩
      · refine CG.logAdd ?_ _ _ _ _
        rw [ev]
        exact ((hc.put _ ncO.1).put _ ncO.2).seto (by omega)
      · refine (nv_of (logs_fr C3 (by omega) (by omega))).trans (nv_of ?_)
        simp (disch := omega) only [upd_ne]
      · refine (logs_fr C3 (by omega) (by omega)).trans ?_
        simp (disch := omega) only [upd_ne]
  · have q2 : zc2 .ne (q_of W t 2) (Int32.ofNat 1) = false := decide_eq_false (fun z => z e)
    rw [e, zeq1', cond_false, q2, cond_false]
    exact RD.fell h hx hc ht (by omega) e
end
section
/-! a step as a whole, alike -/
noncomputable def RZt (b : Nat) (p : QM) (q : QT) : Prop := p.1 = q.1 ∧ RC p.2 b q.2.1 ∧ WX q.2.1 ∧ CG p.2 b
theorem tick_rx {m : Nat → Nat → Int32} {b : Nat} {W : Nat → Int32} {t : Nat} (h : RC m b W) (hx : WX W) (hc : CG m b) : RC (zm2 (zm2 m b 7 (m b 7 + Int32.ofNat 1)) b 8 (Int32.ofNat t)) b (upd (upd W 12 (Int32.ofNat t)) 11 (upd W 12 (Int32.ofNat t) 11 + Int32.ofNat 1)) ∧ WX (upd (upd W 12 (Int32.ofNat t)) 11 (upd W 12 (Int32.ofNat t) 11 + Int32.ofNat 1)) ∧ CG (zm2 (zm2 m b 7 (m b 7 + Int32.ofNat 1)) b 8 (Int32.ofNat t)) b := by
  have g7 : m b 7 = W 11 := h.glob (k := 11) (by omega) (by omega)
  have s1 := h.globS (k := 11) (o := 0) (s := 7) (x := W 11 + Int32.ofNat 1) hx.W.C (by omega) (by omega) (by omega) rfl
  have C1 := WC_of (V := upd W 11 (W 11 + Int32.ofNat 1)) (upd_ne _ _ (by omega)) hx.W.C
  have s2 := s1.globS (k := 12) (o := 0) (s := 8) (x := Int32.ofNat t) C1 (by omega) (by omega) (by omega) rfl
  have eW : upd (upd W 12 (Int32.ofNat t)) 11 (upd W 12 (Int32.ofNat t) 11 + Int32.ofNat 1) = upd (upd W 11 (W 11 + Int32.ofNat 1)) 12 (Int32.ofNat t) := by
    rw [upd_ne (l := 11) _ _ (by omega)]
    funext j
    by_cases c1 : j = 11
    · rw [c1, upd_at, upd_ne _ _ (by omega), upd_at]
    · rw [upd_ne _ _ c1]
      by_cases c2 : j = 12
      · rw [c2, upd_at, upd_at]
      · rw [upd_ne _ _ c2, upd_ne _ _ c2, upd_ne _ _ c1]
  rw [eW, g7]
  rw [Nat.add_zero] at s2
  have x1 : WX (upd W 11 (W 11 + Int32.ofNat 1)) := hx.glob (by omega) (by omega) (by omega)
  exact ⟨s2, x1.glob (by omega) (by omega) (by omega), (hc.put _ (ncM (by omega) (by omega))).put _ (ncM (by omega) (by omega))⟩
noncomputable def x_adv (m : Nat → Nat → Int32) (b t : Nat) : Nat → Nat → Int32 := zm2 (zm2 m (b + 10 + 7 * t) 3 (m (b + 10 + 7 * t) 3 + Int32.ofNat 1)) (b + 10 + 7 * t) 7 (Int32.ofNat 0)
theorem moveOn_eq (m : Nat → Nat → Int32) (b t : Nat) : x_moveOn m b t = bif zc1 .ne (x_sDone (x_adv m b t) b t) then (bif zc1 .eq (x_adv m b t (b + 14 + 7 * t) 0) then (Int32.ofNat 1, x_logAdd (x_adv m b t) b (x_adv m b t b 7) (Int32.ofNat t) (Int32.ofNat 6) (Int32.ofNat 0)) else ((x_fall (x_adv m b t) b t 2).1, (x_fall (x_adv m b t) b t 2).2)) else (Int32.ofNat 1, x_adv m b t) := rfl
theorem adv_eq {m : Nat → Nat → Int32} {b t : Nat} {v : Int32} : x_adv (zm2 m (b + 10 + 7 * t) 7 v) b t = x_adv m b t := by
  unfold x_adv
  rw [zx_nk (k := 7) (l := 3) _ _ (by omega)]
  funext i k
  by_cases ca : i = b + 10 + 7 * t
  · subst ca
    by_cases c7 : k = 7
    · subst c7
      rw [zx_at, zx_at]
    · rw [zx_nk _ _ c7, zx_nk _ _ c7]
      by_cases c3 : k = 3
      · subst c3
        rw [zx_at, zx_at]
      · rw [zx_nk _ _ c3, zx_nk _ _ c3, zx_nk _ _ c7]
  · rw [zx_ne _ _ _ ca, zx_ne _ _ _ ca, zx_ne _ _ _ ca, zx_ne _ _ _ ca, zx_ne _ _ _ ca]
theorem adv_eq2 {m : Nat → Nat → Int32} {b t : Nat} : x_adv m b t = zm2 (zm2 m (b + 10 + 7 * t) 7 (Int32.ofNat 0)) (b + 10 + 7 * t) 3 (m (b + 10 + 7 * t) 3 + Int32.ofNat 1) := by
  unfold x_adv
  funext i k
  by_cases ca : i = b + 10 + 7 * t
  · subst ca
    by_cases c7 : k = 7
    · subst c7
      rw [zx_at, zx_nk _ _ (by omega), zx_at]
    · rw [zx_nk _ _ c7]
      by_cases c3 : k = 3
      · subst c3
        rw [zx_at, zx_at]
      · rw [zx_nk _ _ c3, zx_nk _ _ c3, zx_nk _ _ c7]
  · rw [zx_ne _ _ _ ca, zx_ne _ _ _ ca, zx_ne _ _ _ ca, zx_ne _ _ _ ca]
theorem lt_ne {a c : Nat} (ha : a ≤ c) (hc : c ≤ 24) : zc2 .lt (Int32.ofNat a) (Int32.ofNat c) = zc2 .ne (Int32.ofNat a) (Int32.ofNat c) := by
  have h : ∀ c, c < 25 → ∀ a, a < 25 → a ≤ c → zc2 .lt (Int32.ofNat a) (Int32.ofNat c) = zc2 .ne (Int32.ofNat a) (Int32.ofNat c) := by decide +kernel
  exact h c (by omega) a (by omega) ha
theorem sdone_eq {m : Nat → Nat → Int32} {b : Nat} {W : Nat → Int32} {t : Nat} (h : RC m b W) (hw : WG W) (ht : t < nv W 9) : x_sDone m b t = q_isDone W t := by
  have h4 := hw.N4
  have ht4 : t < 4 := by omega
  have g3 : m (b + 10 + 7 * t) 3 = W (376 + 103 * t + 0) := h.cellS ht4 (by omega) (cnd0 ht (by omega)) rfl
  have g2 : m (b + 10 + 7 * t) 2 = W (376 + 103 * t + 22) := h.cellS ht4 (by omega) (cnd0 ht (by omega)) rfl
  obtain ⟨-, -, -, a4, a5, -⟩ := hw.2 t ht4
  have q0 : q_of W t 0 = W (376 + 103 * t + 0) := rfl
  have q22 : q_of W t 22 = W (376 + 103 * t + 22) := rfl
  unfold x_sDone q_isDone
  rw [g3, g2, q0, q22, a5.1, a4.1, lt_ne a5.2.2 a4.2.2]
theorem moved_rx {m mm : Nat → Nat → Int32} {b : Nat} {V : Nat → Int32} {t : Nat} (h : RC (zm2 m (b + 10 + 7 * t) 7 (Int32.ofNat 0)) b V) (hx : WX V) (hc : CG m b) (ht : t < nv V 9) (hA : AL V t) (e21 : V (376 + 103 * t + 21) = Int32.ofNat 0) (e5 : mm 137 5 = Int32.ofNat 0) : RZt b (x_stepE m b t (Int32.ofNat 1)) (q_stepsD mm (upd V (376 + 103 * t + 0) (V (376 + 103 * t + 0) + Int32.ofNat 1)) t (Int32.ofNat 1)) := by
  have h4 := hx.W.N4
  have ht4 : t < 4 := by omega
  have g3 : m (b + 10 + 7 * t) 3 = V (376 + 103 * t + 0) := by
    have q : zm2 m (b + 10 + 7 * t) 7 (Int32.ofNat 0) (b + 10 + 7 * t) 3 = V (376 + 103 * t + 0) := h.cellS ht4 (by omega) (cnd0 ht (by omega)) rfl
    rw [zx_nk _ _ (by omega)] at q
    exact q
  have r1 : RC (x_adv m b t) b (upd V (376 + 103 * t + 0) (V (376 + 103 * t + 0) + Int32.ofNat 1)) := by
    rw [adv_eq2, g3]
    exact h.thS (c := 0) (o := 10) (s := 3) hx.W.C ht4 (by omega) (by omega) rfl
  have u : ∀ j, j ≠ 376 + 103 * t + 0 → upd V (376 + 103 * t + 0) (V (376 + 103 * t + 0) + Int32.ofNat 1) j = V j := fun j hj => upd_ne _ _ hj
  have x1 : WX (upd V (376 + 103 * t + 0) (V (376 + 103 * t + 0) + Int32.ofNat 1)) := by
    obtain ⟨a1, a2, a3⟩ := hx.T ht4
    refine hx.one ht4 (KG.adv ⟨hx.W, hA⟩ ht4) (fun k hk => u k (by omega)) (fun v hv hvt c hc => u _ (by omega)) ⟨?_, ?_, Or.inl ((u _ (by omega)).trans e21)⟩
    · rw [u _ (by omega), u _ (by omega), u _ (by omega), u _ (by omega)]
      exact a1
    · rw [u _ (by omega), nv_of (u _ (by omega))]
      exact a2
  have c1 : CG (x_adv m b t) b := (hc.put _ (ncS ht4)).put _ (ncS ht4)
  have n9 : nv (upd V (376 + 103 * t + 0) (V (376 + 103 * t + 0) + Int32.ofNat 1)) 9 = nv V 9 := nv_of (u 9 (by omega))
  unfold x_stepE
  rw [moveOn_eq, show zc2 .ne (Int32.ofNat 1) (Int32.ofNat 1) = false from by decide, cond_false]
  unfold q_stepsD
  generalize x_adv m b t = M at r1 c1 ⊢
  generalize upd V (376 + 103 * t + 0) (V (376 + 103 * t + 0) + Int32.ofNat 1) = V1 at r1 x1 n9 ⊢
  have ht1 : t < nv V1 9 := by omega
  rw [sdone_eq r1 x1.W ht1, r1.gs ht4 ht1, zne_n]
  cases zc1 .eq (q_isDone V1 t) with
  | true =>
    simp only [cnT, cnF, Bool.not_true]
    obtain ⟨k1, k2, k3⟩ := tick_rx (t := t) r1 x1 c1
    unfold q_stepsE
    rw [e5, zeq0, cond_true, zeq1', cond_false]
    exact ⟨rfl, k1, k2, k3⟩
  | false =>
    simp only [cnT, cnF, Bool.not_false]
    rcases x1.W.g01 ht4 with e | e
    · have q2 : zc2 .ne (q_of V1 t 2) (Int32.ofNat 1) = true := decide_eq_true (by show ¬ V1 (376 + 103 * t + 2) = Int32.ofNat 1; rw [e]; decide)
      have g11 : M b 7 = V1 11 := r1.glob (k := 11) (by omega) (by omega)
      rw [e, zeq0, cond_true, q2, cond_true, g11]
      obtain ⟨k1, k2, k3⟩ := tick_rx (t := t) (r1.log (t := Int32.ofNat t) (w := Int32.ofNat 6) (v := Int32.ofNat 0) x1.W.C c1.n60) (x1.logs _ _ _) (c1.logAdd _ _ _ _)
      unfold q_stepsE
      rw [e5, zeq0, cond_true, zeq1', cond_false]
      exact ⟨rfl, k1, k2, k3⟩
    · have q2 : zc2 .ne (q_of V1 t 2) (Int32.ofNat 1) = false := decide_eq_false (fun z => z e)
      rw [e, zeq1', cond_false, q2, cond_false]
      obtain ⟨k1, k2, k3⟩ := tick_rx (t := t) (r1.fall2 (y := 2) x1.1 c1 ht1 (by omega) e) (x1.falls ht4 (by omega)) (c1.fall ht4 (by omega))
      unfold q_stepsE q_itFalls
      dsimp only
      rw [zx_at, zeq1', cond_false]
      exact ⟨rfl, k1, k2, k3⟩
/-- what lies behind a deed -/
theorem after_rx {mm : Nat → Nat → Int32} {b : Nat} {W : Nat → Int32} {t : Nat} {P : QM} {Q : QT} (D : RD b t mm W P Q) (ht : t < nv W 9) (hk : KG Q.2.1 t) (h21 : W (376 + 103 * t + 21) = Int32.ofNat 0) (e5 : mm 137 5 = Int32.ofNat 0) : RZt b (x_stepE P.2 b t P.1) (bif zc1 .eq Q.1 then ((q_stepsE Q.2.2 Q.2.1 t Q.1).1, (q_stepsE Q.2.2 Q.2.1 t Q.1).2, Q.2.2) else (q_stepsD Q.2.2 (upd Q.2.1 (376 + 103 * t + 0) (Q.2.1 (376 + 103 * t + 0) + Int32.ofNat 1)) t Q.1)) := by
  obtain ⟨p0, m'⟩ := P
  obtain ⟨q0, V, mm'⟩ := Q
  obtain ⟨h', x', c', n9, d⟩ := D
  dsimp only at h' x' c' n9 d hk ⊢
  have h4 := x'.W.N4
  have ht4 : t < 4 := by omega
  rcases d with ⟨d1, d2, d3, d4⟩ | ⟨d1, d2, d3⟩ | ⟨d1, d2, d3⟩
  · rw [d1, d2, d3, zeq1', cond_false]
    have e21 : V (376 + 103 * t + 21) = Int32.ofNat 0 := by
      rcases d4 with d4 | d4
      · exact d4.trans h21
      · exact d4
    have r := h'.thS (c := 21) (o := 10) (s := 7) (x := V (376 + 103 * t + 21)) x'.W.C ht4 (by omega) (by omega) rfl
    rw [upd_self, e21] at r
    exact moved_rx r x' c' (by omega) hk.2 e21 e5
  · rw [d1, d2, d3, zeq0, cond_true]
    obtain ⟨k1, k2, k3⟩ := tick_rx (t := t) h' x' c'
    unfold x_stepE q_stepsE
    rw [show zc2 .ne (Int32.ofNat 0) (Int32.ofNat 1) = true from by decide, cond_true, e5, zeq0, cond_true, cond_true]
    exact ⟨rfl, k1, k2, k3⟩
  · rw [d1, d2, d3, zeq0, cond_true]
    obtain ⟨k1, k2, k3⟩ := tick_rx (t := t) h' x' c'
    unfold x_stepE q_stepsE
    rw [show zc2 .ne (-1 : Int32) (Int32.ofNat 1) = true from by decide, cond_true, zx_at, zeq1', cond_false]
    exact ⟨rfl, k1, k2, k3⟩
theorem cmT_d {t p : Nat} (hp : p < 24) : cmT t (55 + 2 * p) = (11 + 7 * t, p) ∧ cmT t (55 + 2 * p + 1) = (12 + 7 * t, p) := by
  constructor
  · unfold cmT
    rw [if_neg (by omega), if_neg (by omega), if_neg (by omega), if_neg (by omega), if_neg (by omega), if_neg (by omega), if_neg (by omega), if_neg (by omega), if_neg (by omega), if_neg (by omega), if_neg (by omega), if_neg (by omega), if_neg (by omega), if_neg (by omega), if_neg (by omega), if_pos (by omega), show (55 + 2 * p - 55) / 2 = p by omega]
  · unfold cmT
    rw [if_neg (by omega), if_neg (by omega), if_neg (by omega), if_neg (by omega), if_neg (by omega), if_neg (by omega), if_neg (by omega), if_neg (by omega), if_neg (by omega), if_neg (by omega), if_neg (by omega), if_neg (by omega), if_neg (by omega), if_neg (by omega), if_neg (by omega), if_neg (by omega), show (55 + 2 * p + 1 - 55) / 2 = p by omega]
end
section
/-! steps alike -/
theorem RC.deed {m : Nat → Nat → Int32} {b : Nat} {W : Nat → Int32} {t p : Nat} (h : RC m b W) (ht4 : t < 4) (ht : t < nv W 9) (hp : p < nv W (376 + 103 * t + 22)) (hp24 : p < 24) : m (b + 11 + 7 * t) p = W (376 + 103 * t + (55 + 2 * p)) ∧ m (b + 12 + 7 * t) p = W (376 + 103 * t + (55 + 2 * p + 1)) := by
  obtain ⟨e1, e2⟩ := cmT_d (t := t) hp24
  exact ⟨h.cellS (c := 55 + 2 * p) ht4 (by omega) ⟨ht, fun q => by omega, fun q => by omega, fun q => by omega, fun _ => by omega⟩ e1, h.cellS (c := 55 + 2 * p + 1) ht4 (by omega) ⟨ht, fun q => by omega, fun q => by omega, fun q => by omega, fun _ => by omega⟩ e2⟩
theorem work_rx {m mm : Nat → Nat → Int32} {b : Nat} {W : Nat → Int32} {t : Nat} {n : Int32} (h : RC m b W) (hx : WX W) (hc : CG m b) (ht : t < nv W 9) (hA : AL W t) (hk6 : nv W (376 + 103 * t + (55 + 2 * nv W (376 + 103 * t + 0))) = 6) (e5 : mm 137 5 = Int32.ofNat 0) : RZt b (x_stepE (x_goOnWorking m b t n).2 b t (x_goOnWorking m b t n).1) (bif zc1 .eq (q_works W t n).1 then ((q_stepsE mm (q_works W t n).2 t (q_works W t n).1).1, (q_stepsE mm (q_works W t n).2 t (q_works W t n).1).2, mm) else (q_stepsD mm (upd (q_works W t n).2 (376 + 103 * t + 0) ((q_works W t n).2 (376 + 103 * t + 0) + Int32.ofNat 1)) t (q_works W t n).1)) := by
  have h4 := hx.W.N4
  have ht4 : t < 4 := by omega
  have g7 : m (b + 10 + 7 * t) 7 = W (376 + 103 * t + 21) := h.cellS ht4 (by omega) (cnd0 ht (by omega)) rfl
  have q21 : q_of (upd W (376 + 103 * t + 21) (W (376 + 103 * t + 21) + Int32.ofNat 1)) t 21 = W (376 + 103 * t + 21) + Int32.ofNat 1 := upd_at _ _ _
  unfold x_goOnWorking q_works
  rw [zx_at, g7, q21]
  have w : ∀ x : Int32, WG (upd W (376 + 103 * t + 21) x) := fun x => hx.W.put _ (fre_at ht4 (by omega) (by unfold cT; omega))
  have u : ∀ (x : Int32) j, j ≠ 376 + 103 * t + 21 → upd W (376 + 103 * t + 21) x j = W j := fun x j hj => upd_ne _ _ hj
  have X : ∀ x : Int32, WKt (upd W (376 + 103 * t + 21) x) t → WX (upd W (376 + 103 * t + 21) x) := by
    intro x hK
    obtain ⟨a1, a2, a3⟩ := hx.T ht4
    refine hx.one ht4 (w x) (fun k hk => u x k (by omega)) (fun v hv hvt c hc => u x _ (by omega)) ⟨?_, ?_, hK⟩
    · rw [u _ _ (by omega), u _ _ (by omega), u _ _ (by omega), u _ _ (by omega)]
      exact a1
    · rw [u _ _ (by omega), nv_of (u _ _ (by omega))]
      exact a2
  cases zc2 .ge (W (376 + 103 * t + 21) + Int32.ofNat 1) n with
  | true =>
    simp only [cnT]
    rw [zeq1', cond_false]
    have e2 : upd (upd W (376 + 103 * t + 21) (W (376 + 103 * t + 21) + Int32.ofNat 1)) (376 + 103 * t + 21) (Int32.ofNat 0) = upd W (376 + 103 * t + 21) (Int32.ofNat 0) := by
      funext j
      by_cases c : j = 376 + 103 * t + 21
      · rw [c, upd_at, upd_at]
      · rw [upd_ne _ _ c, upd_ne _ _ c, upd_ne _ _ c]
    have eS : ∀ v : Int32, x_stepE (zm2 m (b + 10 + 7 * t) 7 v) b t (Int32.ofNat 1) = x_stepE m b t (Int32.ofNat 1) := by
      intro v
      unfold x_stepE
      rw [moveOn_eq, moveOn_eq, adv_eq, show zc2 .ne (Int32.ofNat 1) (Int32.ofNat 1) = false from by decide, cond_false, cond_false]
    rw [e2, eS]
    refine moved_rx ?_ (X _ (Or.inl (upd_at _ _ _))) hc (by rw [nv_of (u _ 9 (by omega))]; exact ht) (hA.of (u _ _ (by omega)) (u _ _ (by omega))) (upd_at _ _ _) e5
    exact h.thS (c := 21) (o := 10) (s := 7) hx.W.C ht4 (by omega) (by omega) rfl
  | false =>
    simp only [cnF]
    rw [zeq0, cond_true]
    have A2 : AL (upd W (376 + 103 * t + 21) (W (376 + 103 * t + 21) + Int32.ofNat 1)) t := hA.of (u _ _ (by omega)) (u _ _ (by omega))
    have h24 := (hx.W.2 t ht4).2.2.2.1.2.2
    have hA' : nv W (376 + 103 * t + 0) < nv W (376 + 103 * t + 22) := hA
    have x1 := X (W (376 + 103 * t + 21) + Int32.ofNat 1) (Or.inr ⟨A2, by
      rw [nv_of (u _ (376 + 103 * t + 0) (by omega)), nv_of (u _ _ (by omega))]
      exact hk6⟩)
    obtain ⟨k1, k2, k3⟩ := tick_rx (t := t) (h.thS (c := 21) (o := 10) (s := 7) (x := W (376 + 103 * t + 21) + Int32.ofNat 1) hx.W.C ht4 (by omega) (by omega) rfl) x1 (hc.put _ (ncS ht4))
    unfold x_stepE q_stepsE
    rw [show zc2 .ne (Int32.ofNat 0) (Int32.ofNat 1) = true from by decide, cond_true, e5, zeq0, cond_true, cond_true]
    exact ⟨rfl, k1, k2, k3⟩
theorem ok.nm {W : Nat → Int32} {k hi : Nat} (h : ok W k 0 hi) (hh : hi < 2147483648) : ¬ W k = -1 := by
  intro e
  have q := h.1
  rw [e] at q
  have z : (-1 : Int32).toInt = -1 := by decide
  have h2 := h.2.2
  rw [q, zoN (by omega)] at z
  omega
theorem step_rx {m mm : Nat → Nat → Int32} {b : Nat} {W : Nat → Int32} {t : Nat} (h : RC m b W) (hx : WX W) (hc : CG m b) (ht : t < nv W 9) (hA : AL W t) (hs : ok W (376 + 103 * t + 1) 0 9999) : RZt b (x_takeStep m b t) (q_steps mm W t) := by
  have h4 := hx.W.N4
  have ht4 : t < 4 := by omega
  have hk : KG W t := ⟨hx.W, hA⟩
  obtain ⟨d24, dg⟩ := hk.deed ht4
  have hA' : nv W (376 + 103 * t + 0) < nv W (376 + 103 * t + 22) := hA
  have g3 : mv m (b + 10 + 7 * t) 3 = nv W (376 + 103 * t + 0) := by
    have q : m (b + 10 + 7 * t) 3 = W (376 + 103 * t + 0) := h.cellS ht4 (by omega) (cnd0 ht (by omega)) rfl
    unfold mv nv
    rw [q]
  obtain ⟨gk, gn⟩ := h.deed ht4 ht hA' d24
  have ek : mv m (b + 11 + 7 * t) (nv W (376 + 103 * t + 0)) = nv W (376 + 103 * t + (55 + 2 * nv W (376 + 103 * t + 0))) := by
    unfold mv
    rw [gk]
    rfl
  have en : mv m (b + 12 + 7 * t) (nv W (376 + 103 * t + 0)) = nv W (376 + 103 * t + (55 + 2 * nv W (376 + 103 * t + 0) + 1)) := by
    unfold mv
    rw [gn]
    rfl
  have e5 : zm2 mm 137 5 (Int32.ofNat 0) 137 5 = Int32.ofNat 0 := zx_at _ _ _ _
  obtain ⟨D1, D2, D3, D4⟩ := dg
  have hwk := hx.2.2.2 t ht4
  have ok' := does_ok (m := zm2 mm 137 5 (Int32.ofNat 0)) (n := nv W (376 + 103 * t + (55 + 2 * nv W (376 + 103 * t + 0) + 1))) hk ht4 (K := nv W (376 + 103 * t + (55 + 2 * nv W (376 + 103 * t + 0)))) (by have := D1.2.2; omega) D3 D4
  have hK7 := D1.2.2
  unfold WKt at hwk
  unfold x_takeStep q_steps
  generalize hKe : nv W (376 + 103 * t + (55 + 2 * nv W (376 + 103 * t + 0))) = K at ek ok' D3 D4 hK7 hwk ⊢
  rw [g3, ek]
  have h21 : K ≠ 6 → W (376 + 103 * t + 21) = Int32.ofNat 0 := by
    intro k6
    rcases hwk with e | ⟨_, e⟩
    · exact e
    · exact absurd e k6
  generalize nv W (376 + 103 * t + (55 + 2 * nv W (376 + 103 * t + 0) + 1)) = n at en ok' D3 D4 ⊢
  generalize zm2 mm 137 5 (Int32.ofNat 0) = mz at e5 ok' ⊢
  match K, hK7, hKe with
  | 0, _, _ =>
    have eD : q_does mz W t 0 n = q_takes mz W t n := rfl
    rw [eD] at ok' ⊢
    unfold x_takeStep0
    rw [g3, en, h.gs ht4 ht]
    have hn := D3 (by omega)
    rcases hx.W.g01 ht4 with e | e
    · rw [e, zeq0, cond_true]
      exact after_rx (takeP_rx (mm := mz) h hx hc ht (show n < 4 by omega) hA e) ht ok'.1 (h21 (by omega)) e5
    · rw [e, zeq1', cond_false]
      exact after_rx (takeG_rx (mm := mz) h hx hc ht (show n < 4 by omega) hA e) ht ok'.1 (h21 (by omega)) e5
  | 1, _, _ =>
    have eD : q_does mz W t 1 n = q_drops mz W t n := rfl
    rw [eD] at ok' ⊢
    unfold x_takeStep1
    rw [g3, en]
    have hn := D3 (by omega)
    exact after_rx (drop_rx (mm := mz) h hx hc ht (show n < 4 by omega) hA) ht ok'.1 (h21 (by omega)) e5
  | 2, _, _ =>
    have eD : q_does mz W t 2 n = q_does2 mz W t n := rfl
    rw [eD] at ok' ⊢
    unfold x_takeStep2
    rw [g3, en]
    have hn := D4 (by omega)
    exact after_rx (get_rx (mm := mz) h hx hc ht (show n < 32 by omega)) ht ok'.1 (h21 (by omega)) e5
  | 3, _, _ =>
    have eD : q_does mz W t 3 n = q_writes mz W t n (W (376 + 103 * t + 1)) := rfl
    rw [eD] at ok' ⊢
    unfold x_takeStep3
    rw [g3, en]
    have hn := D4 (by omega)
    have g4 : m (b + 10 + 7 * t) 4 = W (376 + 103 * t + 1) := h.cellS ht4 (by omega) (cnd0 ht (by omega)) rfl
    rw [g4]
    exact after_rx ((writes_rx (mm := mz) h hx hc ht (show n < 32 by omega) (hs.nm (by omega))).d (writes_9 hx.W ht4)) ht ok'.1 (h21 (by omega)) e5
  | 4, _, _ =>
    have eD : q_does mz W t 4 n = (Int32.ofNat 1, upd W (376 + 103 * t + 1) (Int32.ofNat n), mz) := rfl
    rw [eD] at ok' ⊢
    unfold x_takeStep4
    rw [g3, en]
    exact after_rx (sum_rx (mm := mz) (x := Int32.ofNat n) h hx hc ht) ht ok'.1 (h21 (by omega)) e5
  | 5, _, _ =>
    have eD : q_does mz W t 5 n = (Int32.ofNat 1, upd W (376 + 103 * t + 1) ((W (376 + 103 * t + 1) + Int32.ofNat n) - (W (376 + 103 * t + 1) + Int32.ofNat n) / Int32.ofNat 10000 * Int32.ofNat 10000), mz) := rfl
    rw [eD] at ok' ⊢
    unfold x_takeStep5
    rw [g3, en]
    have g4 : m (b + 10 + 7 * t) 4 = W (376 + 103 * t + 1) := h.cellS ht4 (by omega) (cnd0 ht (by omega)) rfl
    rw [g4]
    exact after_rx (sum_rx (mm := mz) (x := (W (376 + 103 * t + 1) + Int32.ofNat n) - (W (376 + 103 * t + 1) + Int32.ofNat n) / Int32.ofNat 10000 * Int32.ofNat 10000) h hx hc ht) ht ok'.1 (h21 (by omega)) e5
  | 6, _, hKe =>
    have eD : q_does mz W t 6 n = ((q_works W t (Int32.ofNat n)).1, (q_works W t (Int32.ofNat n)).2, mz) := rfl
    rw [eD] at ok' ⊢
    unfold x_takeStep6
    rw [g3, en]
    exact work_rx (mm := mz) (n := Int32.ofNat n) h hx hc ht hA hKe e5
  | 7, _, _ =>
    have eD : q_does mz W t 7 n = q_putsOut mz W t := rfl
    rw [eD] at ok' ⊢
    unfold x_takeStep7
    exact after_rx (out_rx (mm := mz) h hx hc ht hA) ht ok'.1 (h21 (by omega)) e5
  | k + 8, hk8, _ => exact absurd hk8 (by omega)
end
section
/-! sums, values and words stay between 0 and 9999 -/
noncomputable def vc (k : Nat) : Prop := (32 ≤ k ∧ k < 64) ∨ ∃ t c, t < 4 ∧ k = 376 + 103 * t + c ∧ (c = 1 ∨ c = 19 ∨ (23 ≤ c ∧ c ≤ 54))
noncomputable def SB (W : Nat → Int32) : Prop := ∀ k, vc k → ok W k 0 9999
noncomputable def vx (x : Int32) : Prop := ∃ n, n ≤ 9999 ∧ x = Int32.ofNat n
theorem ok.v {W : Nat → Int32} {k : Nat} (h : ok W k 0 9999) : vx (W k) := ⟨nv W k, h.2.2, h.1⟩
theorem SB.put {W : Nat → Int32} {k : Nat} {x : Int32} (h : SB W) (hk : vc k → vx x) : SB (upd W k x) := by
  intro j hj
  by_cases e : j = k
  · subst e
    obtain ⟨n, n1, n2⟩ := hk hj
    exact ok.is ((upd_at _ _ _).trans n2) (by omega) n1 (by omega)
  · exact (h j hj).of (upd_ne _ _ e)
theorem nvc_g {k : Nat} (h : k < 376) (h2 : k < 32 ∨ 64 ≤ k) : ¬ vc k := by
  intro q
  rcases q with q | ⟨t, c, _, e, _⟩ <;> omega
theorem nvc_t {t c : Nat} (ht : t < 4) (hc : c < 103) (h2 : c ≠ 1 ∧ c ≠ 19 ∧ ¬ (23 ≤ c ∧ c ≤ 54)) : ¬ vc (376 + 103 * t + c) := by
  intro q
  rcases q with q | ⟨u, d, hu, e, hd⟩
  · omega
  · omega
theorem SB.pg {W : Nat → Int32} {k : Nat} {x : Int32} (h : SB W) (h1 : k < 376) (h2 : k < 32 ∨ 64 ≤ k) : SB (upd W k x) := h.put (fun q => absurd q (nvc_g h1 h2))
theorem SB.pt {W : Nat → Int32} {t c : Nat} {x : Int32} (h : SB W) (ht : t < 4) (hc : c < 103) (h2 : c ≠ 1 ∧ c ≠ 19 ∧ ¬ (23 ≤ c ∧ c ≤ 54)) : SB (upd W (376 + 103 * t + c) x) := h.put (fun q => absurd q (nvc_t ht hc h2))
theorem SB.logs {W : Nat → Int32} {a c v : Int32} (h : SB W) (hC : WC W) : SB (q_logs W a c v) := by
  intro k hk
  refine (h k hk).of (logs_fr hC ?_ ?_)
  · rcases hk with q | ⟨t, c, _, e, _⟩ <;> omega
  · rcases hk with q | ⟨t, c, _, e, _⟩ <;> omega
theorem vct {t c : Nat} (ht : t < 4) (h : c = 1 ∨ c = 19 ∨ (23 ≤ c ∧ c ≤ 54)) : vc (376 + 103 * t + c) := Or.inr ⟨t, c, ht, rfl, h⟩
theorem SB.t {W : Nat → Int32} (h : SB W) {t c : Nat} (ht : t < 4) (hc : c = 1 ∨ c = 19 ∨ (23 ≤ c ∧ c ≤ 54)) : vx (W (376 + 103 * t + c)) := (h _ (vct ht hc)).v
theorem SB.w {W : Nat → Int32} (h : SB W) {w : Nat} (hw : w < 32) : vx (W (32 + w)) := (h _ (Or.inl (by omega))).v
theorem SB.ends {W : Nat → Int32} (h : SB W) {t : Nat} (ht : t < 4) : SB (q_ends W t) := by
  unfold q_ends
  exact ((((h.pt ht (by omega) (by omega)).pt ht (by omega) (by omega)).pt ht (by omega) (by omega)).pt ht (by omega) (by omega)).pt ht (by omega) (by omega)
theorem SB.falls {W : Nat → Int32} (h : SB W) (hw : WG W) {t y : Nat} (ht : t < 4) (hy : y < 5) : SB (q_falls W t y) := by
  have hl := (hw.L t ht).2
  unfold q_falls
  refine SB.logs ?_ (WC_of (by simp (disch := omega) only [q_ends, upd_ne]) hw.C)
  refine SB.ends ?_ ht
  refine SB.pg ?_ (by omega) (by omega)
  refine SB.pt ?_ ht (by omega) (by omega)
  refine SB.pt ?_ ht (by omega) (by omega)
  refine SB.pt ?_ ht (by omega) (by omega)
  have e : q_of (upd W (376 + 103 * t + 0) (q_of W t 18)) t 19 = W (376 + 103 * t + 19) := upd_ne _ _ (by omega)
  rw [e]
  exact (h.pt ht (by omega) (by omega)).put (fun _ => h.t ht (by omega))
theorem clearsL_sb {t s : Int32} {n9 : Nat} (hn : n9 ≤ 4) : ∀ (n k : Nat) (W : Nat → Int32), k + n = n9 → WG W → SB W → SB (l_clears t s n9 n k W).2 := by
  intro n
  induction n with
  | zero => intro k W _ _ h; exact h
  | succ n ih =>
    intro k W hk hw h
    rw [l_clears]
    exact cndi (fun q : Int32 × (Nat → Int32) => SB q.2) (ih _ _ (by omega) hw h) (ih _ _ (by omega) (hw.falls (by omega) (by omega)) (h.falls hw (by omega) (by omega)))
theorem SB.clears {W : Nat → Int32} {mm : Nat → Nat → Int32} (h : SB W) (hw : WG W) {t : Nat} (ht : t < 4) (s : Int32) : SB (q_clears mm W t s).2.1 := by
  unfold q_clears
  exact cndi (fun q : QT => SB q.2.1) (clearsL_sb hw.N4 _ _ _ (by omega) hw h) (h.falls hw ht (by omega))
theorem SB.reads {W : Nat → Int32} {mm : Nat → Nat → Int32} (h : SB W) (hw : WG W) {t : Nat} (ht : t < 4) (w : Int32) : SB (q_reads mm W t w).2.1 := by
  have h1 := h.clears (mm := mm) hw ht (q_clash W (Int32.ofNat t) (q_blockOf W w) (Int32.ofNat 0))
  unfold q_reads
  generalize q_clears mm W t (q_clash W (Int32.ofNat t) (q_blockOf W w) (Int32.ofNat 0)) = c at h1 ⊢
  exact cndi (fun q : QT => SB q.2.1) (cndi (fun q : QT => SB q.2.1) h1 (h1.pt ht (by omega) (by omega))) h1
theorem SB.writesB {W : Nat → Int32} {mm : Nat → Nat → Int32} (h : SB W) (hw : WG W) {t w : Nat} {v : Int32} (ht : t < 4) (hv : vx v) (b g : Int32) : SB (q_writesB mm W t w v b g).2.1 := by
  have h1 := h.clears (mm := mm) hw ht (q_clash W (Int32.ofNat t) b (Int32.ofNat 1))
  unfold q_writesB
  generalize q_clears mm W t (q_clash W (Int32.ofNat t) b (Int32.ofNat 1)) = c at h1 ⊢
  exact cndi (fun q : QT => SB q.2.1) (cndi (fun q : QT => SB q.2.1) (h1.put (fun _ => hv)) (((h1.pt ht (by omega) (by omega)).pt ht (by omega) (by omega)).put (fun _ => hv))) h1
theorem SB.writes {W : Nat → Int32} {mm : Nat → Nat → Int32} (h : SB W) (hw : WG W) {t w : Nat} {v : Int32} (ht : t < 4) (hv : vx v) : SB (q_writes mm W t w v).2.1 := by
  unfold q_writes
  exact cndi (fun q : QT => SB q.2.1) (h.writesB hw ht hv _ _) (cndi (fun q : QT => SB q.2.1) (h.writesB hw ht hv _ _) (cndi (fun q : QT => SB q.2.1) (h.writesB hw ht hv _ _) (h.falls hw ht (by omega))))
theorem SB.isTaken {W : Nat → Int32} (h : SB W) (hw : WG W) {t l : Nat} (ht : t < 4) (hl : l < 4) : SB (q_isTaken W t l) := by
  unfold q_isTaken
  have h2 : SB (upd (upd W (376 + 103 * t + 3) (Int32.ofNat 0)) (24 + l) (upd W (376 + 103 * t + 3) (Int32.ofNat 0) (24 + l) + Int32.ofNat 1)) := (h.pt ht (by omega) (by omega)).pg (by omega) (by omega)
  have C2 : WC (upd (upd W (376 + 103 * t + 3) (Int32.ofNat 0)) (24 + l) (upd W (376 + 103 * t + 3) (Int32.ofNat 0) (24 + l) + Int32.ofNat 1)) := WC_of (by simp (disch := omega) only [upd_ne]) hw.C
  exact cndi (fun q : Nat → Int32 => SB q) (h2.logs C2) ((h2.pg (by omega) (by omega)).logs (WC_of (upd_ne _ _ (by omega)) C2))
theorem SB.leavesOut {W : Nat → Int32} (h : SB W) {t l : Nat} (ht : t < 4) (hq : nv W (376 + 103 * t + 10) < 4) : SB (q_leavesOut W t l) := by
  unfold q_leavesOut
  exact (h.pt ht (by omega) (by omega)).pt ht (by omega) (by omega)
theorem SB.beginsGuess {W : Nat → Int32} (h : SB W) (hw : WG W) {t l : Nat} (ht : t < 4) (hq : nv W (376 + 103 * t + 10) < 4) : SB (q_beginsGuess W t l) := by
  unfold q_beginsGuess
  have e10 : ∀ a c d f g : Int32, nv (upd (upd (upd (upd (upd W (376 + 103 * t + 2) a) (376 + 103 * t + 18) c) (376 + 103 * t + 19) d) (376 + 103 * t + 20) f) (376 + 103 * t + 15) g) (376 + 103 * t + 10) = nv W (376 + 103 * t + 10) := fun a c d f g => nv_of (by simp (disch := omega) only [upd_ne])
  refine SB.logs (SB.leavesOut ?_ ht (by rw [e10]; exact hq)) ?_
  · refine SB.pt ?_ ht (by omega) (by omega)
    refine SB.pt ?_ ht (by omega) (by omega)
    refine SB.put ?_ (fun _ => ?_)
    · exact (h.pt ht (by omega) (by omega)).pt ht (by omega) (by omega)
    · have e : q_of (upd (upd W (376 + 103 * t + 2) (Int32.ofNat 1)) (376 + 103 * t + 18) (q_of (upd W (376 + 103 * t + 2) (Int32.ofNat 1)) t 0)) t 1 = W (376 + 103 * t + 1) := by
        unfold q_of
        rw [upd_ne _ _ (by omega), upd_ne _ _ (by omega)]
      rw [e]
      exact h.t ht (by omega)
  · unfold q_leavesOut
    rw [e10]
    exact WC_of (by simp (disch := omega) only [upd_ne]) hw.C
theorem svn {n : Nat} (h : n ≤ 9999) : vx (Int32.ofNat n) := ⟨n, h, rfl⟩
theorem isKept_sb {t l : Nat} (ht : t < 4) (hl : l < 4) : ∀ (n k : Nat) (W : Nat → Int32), k + n = 32 → WC W → SB W → SB (l_isKept t l n k W) := by
  intro n
  induction n with
  | zero =>
    intro k W _ C h
    rw [l_isKept]
    refine SB.logs (SB.ends ?_ ht) (WC_of (by simp (disch := omega) only [q_ends, upd_ne]) C)
    exact (((h.pg (by omega) (by omega)).pg (by omega) (by omega)).pt ht (by omega) (by omega)).pt ht (by omega) (by omega)
  | succ n ih =>
    intro k W hk C h
    rw [l_isKept]
    exact cndi (fun q : Nat → Int32 => SB q) (ih _ _ (by omega) C h) (ih _ _ (by omega) (WC_of (upd_ne _ _ (by omega)) C) (h.put (fun _ => h.t ht (by omega))))
noncomputable def SQb (q : QT) : Prop := SB q.2.1
theorem takes_sb {W : Nat → Int32} {mm : Nat → Nat → Int32} {t l : Nat} (h : SB W) (hk : KG W t) (ht : t < 4) (hl : l < 4) : SQb (q_takes mm W t l) := by
  have r := h.reads (mm := mm) hk.1 ht (Int32.ofNat (nv W (16 + l)))
  have k := hk.reads (m := mm) ht (Int32.ofNat (nv W (16 + l)))
  unfold q_takes
  generalize q_reads mm W t (Int32.ofNat (nv W (16 + l))) = c at r k ⊢
  refine cndi SQb ?_ r
  have F : ∀ f : Int32, SQb (q_takesC c.2.2 c.2.1 t l (nv W (16 + l)) f) := by
    intro f
    have aD : SQb (q_takesD c.2.2 c.2.1 t l (nv W (16 + l)) f) := by
      unfold q_takesD
      exact cndi SQb (r.falls k.1 ht (by omega)) (r.falls k.1 ht (by omega))
    have w := r.writes (mm := c.2.2) (w := nv W (16 + l)) k.1 ht (svn (show 1 ≤ 9999 by omega))
    have kw := (k.writes (m := c.2.2) (w := nv W (16 + l)) ht (hk.1.lk32 hl) (Int32.ofNat 1)).1
    unfold q_takesC
    refine cndh SQb (fun h1 => ?_) (fun h1 => ?_)
    · exact cndi SQb (cndi SQb (w.isTaken kw ht hl) (cndi SQb (w.isTaken kw ht hl) (r.beginsGuess k.1 ht (k.1.idle ht h1)))) r
    · exact cndi SQb aD (cndi SQb (cndh SQb (fun h2 => r.leavesOut ht (zlt4 k.1 ht h2)) (fun _ => w)) aD)
  unfold q_takesB
  exact cndi SQb (F _) (F _)
theorem drops_sb {W : Nat → Int32} {mm : Nat → Nat → Int32} {t l : Nat} (h : SB W) (hk : KG W t) (ht : t < 4) (hl : l < 4) : SQb (q_drops mm W t l) := by
  have w := h.writes (mm := mm) (w := nv W (16 + l)) hk.1 ht (svn (show 0 ≤ 9999 by omega))
  have kw := (hk.writes (m := mm) (w := nv W (16 + l)) ht (hk.1.lk32 hl) (Int32.ofNat 0)).1
  unfold q_drops
  exact cndi SQb (cndi SQb (cndi SQb (h.pt ht (by omega) (by omega)) (isKept_sb ht hl _ _ _ rfl hk.1.C h)) (h.falls hk.1 ht (by omega))) (cndi SQb (cndi SQb (w.logs kw.C) w) (cndi SQb w w))
theorem seen_v {W : Nat → Int32} {t w : Nat} (h : SB W) (ht : t < 4) (hw : w < 32) : vx (q_seen W t w) := by
  unfold q_seen
  exact cndi vx (h.w hw) (h.t ht (by omega))
theorem vx_plus {x : Int32} {n : Nat} (h : vx x) (hn : n ≤ 999) : vx ((x + Int32.ofNat n) - (x + Int32.ofNat n) / Int32.ofNat 10000 * Int32.ofNat 10000) := by
  obtain ⟨a, h1, e⟩ := h
  rw [e, i_add]
  have hd : Int32.ofNat (a + n) / Int32.ofNat 10000 = Int32.ofNat ((a + n) / 10000) := by
    apply Int32.toInt_inj.mp
    rw [Int32.toInt_div_of_ne_left, zoN (by omega), zoN (by omega), zoN (by omega)]
    · rw [Int.tdiv_eq_ediv_of_nonneg (by omega)]
      rfl
    · intro q
      have z := congrArg Int32.toInt q
      rw [zoN (by omega)] at z
      have m1 : Int32.minValue.toInt = -2147483648 := by decide
      omega
  have hc : (a + n) / 10000 = 0 ∨ (a + n) / 10000 = 1 := by omega
  rw [hd]
  rcases hc with q | q
  · rw [q]
    refine ⟨a + n, by omega, ?_⟩
    rw [show Int32.ofNat 0 * Int32.ofNat 10000 = Int32.ofNat 0 from by decide, i_sub (by omega)]
    rfl
  · rw [q]
    refine ⟨a + n - 10000, by omega, ?_⟩
    rw [show Int32.ofNat 1 * Int32.ofNat 10000 = Int32.ofNat 10000 from by decide, i_sub (by omega)]
theorem does_sb {W : Nat → Int32} {mm : Nat → Nat → Int32} {t K n : Nat} (h : SB W) (hk : KG W t) (ht : t < 4) (hn1 : K ≤ 1 → n ≤ 3) (hn3 : K ≤ 3 → n ≤ 31) (hn : n ≤ 999) : SQb (q_does mm W t K n) := by
  match K, hn1, hn3 with
  | 0, hn1, _ => exact takes_sb h hk ht (Nat.lt_succ_of_le (hn1 (by omega)))
  | 1, hn1, _ => exact drops_sb h hk ht (Nat.lt_succ_of_le (hn1 (by omega)))
  | 2, _, hn3 =>
    have r := h.reads (mm := mm) hk.1 ht (Int32.ofNat n)
    have n32 := hn3 (by omega)
    show SQb (q_does2 mm W t n)
    unfold q_does2
    generalize q_reads mm W t (Int32.ofNat n) = c at r ⊢
    exact cndi SQb (r.put (fun _ => seen_v r ht (by omega))) r
  | 3, _, _ => exact h.writes (mm := mm) hk.1 ht (h.t ht (by omega))
  | 4, _, _ => exact h.put (fun _ => svn (by omega))
  | 5, _, _ => exact h.put (fun _ => vx_plus (h.t ht (by omega)) hn)
  | 6, _, _ =>
    show SB (q_works W t (Int32.ofNat n)).2
    unfold q_works
    exact cndi (fun q : Int32 × (Nat → Int32) => SB q.2) ((h.pt ht (by omega) (by omega)).pt ht (by omega) (by omega)) (h.pt ht (by omega) (by omega))
  | k + 7, _, _ =>
    have e : q_does mm W t (k + 7) n = q_putsOut mm W t := by
      cases k <;> rfl
    rw [e]
    have o14 := hk.1.1.2.2.2.2.1.2.2
    unfold q_putsOut
    refine cndi SQb (cndh SQb (fun _ => h.logs hk.1.C) (fun hz => ?_)) (h.falls hk.1 ht (by omega))
    have h20 : nv W 14 < 20 := by
      rw [zge_n] at hz
      cases hq : zc2 .lt (Int32.ofNat (nv W 14)) (Int32.ofNat 20) with
      | true => exact zlt_t (by omega) (by omega) hq
      | false => rw [hq] at hz; exact absurd hz (by decide)
    refine SB.logs ?_ (WC_of (by simp (disch := omega) only [upd_ne]) hk.1.C)
    exact ((h.pg (by omega) (by omega)).pg (by omega) (by omega)).pg (by omega) (by omega)
theorem stepsE_sb {W : Nat → Int32} {mm : Nat → Nat → Int32} {t : Nat} {on : Int32} (h : SB W) : SB (q_stepsE mm W t on).2 := by
  have h2 : SB (upd (upd W 12 (Int32.ofNat t)) 11 (upd W 12 (Int32.ofNat t) 11 + Int32.ofNat 1)) := (h.pg (by omega) (by omega)).pg (by omega) (by omega)
  unfold q_stepsE
  exact cndi (fun q : Int32 × (Nat → Int32) => SB q.2) (cndi (fun q : Int32 × (Nat → Int32) => SB q.2) h2 h2) h2
theorem stepsD_sb {W : Nat → Int32} {mm : Nat → Nat → Int32} {t : Nat} {on : Int32} (h : SB W) (hw : WG W) (ht : t < 4) : SQb (q_stepsD mm W t on) := by
  unfold q_stepsD
  exact cndi SQb (stepsE_sb h) (cndi SQb (stepsE_sb (h.logs hw.C)) (stepsE_sb (h.falls hw ht (by omega))))
theorem steps_sb {W : Nat → Int32} {mm : Nat → Nat → Int32} {t : Nat} (h : SB W) (hk : KG W t) (ht : t < 4) : SQb (q_steps mm W t) := by
  obtain ⟨d24, D1, D2, D3, D4⟩ := hk.deed ht
  have d := does_sb (mm := zm2 mm 137 5 (Int32.ofNat 0)) h hk ht D3 D4 D2.2.2
  have k := (does_ok (m := zm2 mm 137 5 (Int32.ofNat 0)) (n := nv W (376 + 103 * t + (55 + 2 * nv W (376 + 103 * t + 0) + 1))) hk ht (K := nv W (376 + 103 * t + (55 + 2 * nv W (376 + 103 * t + 0)))) (by have := D1.2.2; omega) D3 D4).1
  unfold q_steps
  generalize q_does (zm2 mm 137 5 (Int32.ofNat 0)) W t (nv W (376 + 103 * t + (55 + 2 * nv W (376 + 103 * t + 0)))) (nv W (376 + 103 * t + (55 + 2 * nv W (376 + 103 * t + 0) + 1))) = c at d k ⊢
  have d' : SB c.2.1 := d
  exact cndi SQb (stepsE_sb d') (stepsD_sb (d'.pt ht (by omega) (by omega)) (k.adv ht) ht)
/-- the whole of a step: alike, and all bounds kept -/
noncomputable def WY (W : Nat → Int32) : Prop := WX W ∧ SB W
theorem step_ry {m mm : Nat → Nat → Int32} {b : Nat} {W : Nat → Int32} {t : Nat} (h : RC m b W) (hy : WY W) (hc : CG m b) (ht : t < nv W 9) (hA : AL W t) : (x_takeStep m b t).1 = (q_steps mm W t).1 ∧ RC (x_takeStep m b t).2 b (q_steps mm W t).2.1 ∧ WY (q_steps mm W t).2.1 ∧ CG (x_takeStep m b t).2 b := by
  have h4 := hy.1.W.N4
  obtain ⟨a, b', c, d⟩ := step_rx (mm := mm) h hy.1 hc ht hA (hy.2 _ (vct (by omega) (by omega)))
  exact ⟨a, b', ⟨c, steps_sb hy.2 ⟨hy.1.W, hA⟩ (by omega)⟩, d⟩
end
