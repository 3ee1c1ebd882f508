/-! the other deeds, and a step as a whole -/
theorem get_rx {m mm : Nat → Nat → Int32} {b : Nat} {W : Nat → Int32} {t w : Nat} (h : RC m b W) (hx : WX W) (hc : CG m b) (ht : t < nv W 9) (hw : w < 32) : RD b t mm W (x_getWord m b t w) (q_does2 mm W t w) := by
  have h4 := hx.W.N4
  have ht4 : t < 4 := by omega
  have r := reads_rx (mm := mm) (w := w) h hx hc ht
  have k9 := reads_9 (mm := mm) (t := t) (w := Int32.ofNat w) hx.W ht4
  unfold x_getWord q_does2
  generalize x_reach m b t w (-1) = P at r ⊢
  generalize q_reads mm W t (Int32.ofNat w) = Q at r k9 ⊢
  obtain ⟨p0, m'⟩ := P
  obtain ⟨q0, W', mm'⟩ := Q
  have n9 : nv W' 9 = nv W 9 := nv_of k9
  obtain ⟨h', x', c', d⟩ := r
  rcases d with ⟨d1, d2, d3, f⟩ | ⟨d1, d2, d3, -⟩
  · dsimp only at h' x' c' d1 d2 d3 f ⊢
    subst d1
    subst d2
    subst d3
    rw [zn1, cond_true, show zc2 .ne (Int32.ofNat 1) (Int32.ofNat 1) = false from by decide, cond_false, seen_eq h' x' (by omega) hw]
    exact ⟨h'.thS (c := 1) (o := 10) (s := 4) x'.W.C ht4 (by omega) (by omega) rfl, x'.th ht4 (by omega) (by unfold cT; omega), c'.put _ (ncS ht4), (nv_of (upd_ne _ _ (by omega))).trans n9, Or.inl ⟨rfl, rfl, rfl, Or.inl ((upd_ne _ _ (by omega)).trans (f.2 21 (by omega) (by omega) (by omega)))⟩⟩
  · dsimp only at h' x' c' d1 d2 d3 ⊢
    subst d1
    subst d2
    subst d3
    rw [zne0, cond_false, show zc2 .ne (-1 : Int32) (Int32.ofNat 1) = true from by decide, cond_true]
    exact ⟨h', x', c', n9, Or.inr (Or.inr ⟨rfl, rfl, rfl⟩)⟩
theorem sum_rx {m mm : Nat → Nat → Int32} {b : Nat} {W : Nat → Int32} {t : Nat} {x : Int32} (h : RC m b W) (hx : WX W) (hc : CG m b) (ht : t < nv W 9) : RD b t mm W (Int32.ofNat 1, zm2 m (b + 10 + 7 * t) 4 x) (Int32.ofNat 1, upd W (376 + 103 * t + 1) x, mm) := by
  have h4 := hx.W.N4
  have ht4 : t < 4 := by omega
  exact ⟨h.thS (c := 1) (o := 10) (s := 4) hx.W.C ht4 (by omega) (by omega) rfl, hx.th ht4 (by omega) (by unfold cT; omega), hc.put _ (ncS ht4), nv_of (upd_ne _ _ (by omega)), Or.inl ⟨rfl, rfl, rfl, Or.inl (upd_ne _ _ (by omega))⟩⟩
theorem cm_o {k : Nat} (hk : k < 20) : cm (96 + 2 * k) = (38, k) ∧ cm (96 + 2 * k + 1) = (39, k) := by
  constructor
  · unfold cm
    rw [if_neg (by omega), if_neg (by omega), if_neg (by omega), if_neg (by omega), if_neg (by omega), if_neg (by omega), if_neg (by omega), if_neg (by omega), if_neg (by omega), if_neg (by omega), if_neg (by omega), if_pos (by omega), if_pos (by omega), show (96 + 2 * k - 96) / 2 = k by omega]
  · unfold cm
    rw [if_neg (by omega), if_neg (by omega), if_neg (by omega), if_neg (by omega), if_neg (by omega), if_neg (by omega), if_neg (by omega), if_neg (by omega), if_neg (by omega), if_neg (by omega), if_neg (by omega), if_pos (by omega), if_neg (by omega), show (96 + 2 * k + 1 - 96) / 2 = k by omega]
theorem out_rx {m mm : Nat → Nat → Int32} {b : Nat} {W : Nat → Int32} {t : Nat} (h : RC m b W) (hx : WX W) (hc : CG m b) (ht : t < nv W 9) (hA : AL W t) : RD b t mm W (x_putOut m b t) (q_putsOut mm W t) := by
  have h4 := hx.W.N4
  have ht4 : t < 4 := by omega
  have g0 := h.gs ht4 ht
  have g4 : m (b + 10 + 7 * t) 4 = W (376 + 103 * t + 1) := h.cellS ht4 (by omega) (cnd0 ht (by omega)) rfl
  have g7 : m b 7 = W 11 := h.glob (k := 11) (by omega) (by omega)
  have g12 : m b 12 = W 14 := h.glob (k := 14) (by omega) (by omega)
  have e12 : mv m b 12 = nv W 14 := by unfold mv nv; rw [g12]
  have q1 : q_of W t 1 = W (376 + 103 * t + 1) := rfl
  unfold x_putOut q_putsOut
  rw [g0, e12, q1]
  rcases hx.W.g01 ht4 with e | e
  · have q2 : zc2 .ne (q_of W t 2) (Int32.ofNat 1) = true := decide_eq_true (by show ¬ W (376 + 103 * t + 2) = Int32.ofNat 1; rw [e]; decide)
    rw [e, zeq0, cond_true, q2, cond_true]
    cases hz : zc2 .ge (Int32.ofNat (nv W 14)) (Int32.ofNat 20) with
    | true =>
      simp only [cnT]
      rw [g4, g7]
      exact ⟨h.log hx.W.C hc.n60, hx.logs _ _ _, hc.logAdd _ _ _ _, nv_of (logs_fr hx.W.C (by omega) (by omega)), Or.inl ⟨rfl, rfl, rfl, Or.inl (logs_fr hx.W.C (by omega) (by omega))⟩⟩
    | false =>
      simp only [cnF]
      have o14 := hx.W.1.2.2.2.2.1
      have h20 : nv W 14 < 20 := by
        rw [zge_n] at hz
        cases hq : zc2 .lt (Int32.ofNat (nv W 14)) (Int32.ofNat 20) with
        | true => exact zlt_t (by have := o14.2.2; omega) (by omega) hq
        | false => rw [hq] at hz; exact absurd hz (by decide)
      obtain ⟨c38, c39⟩ := cm_o h20
      have C := hx.W.C
      have s1 := h.globS (k := 96 + 2 * nv W 14) (x := Int32.ofNat t) C (by omega) (by omega) (by omega) c38
      have C1 := WC_of (V := upd W (96 + 2 * nv W 14) (Int32.ofNat t)) (upd_ne _ _ (by omega)) C
      have s2 := s1.globS (k := 96 + 2 * nv W 14 + 1) (x := W (376 + 103 * t + 1)) C1 (by omega) (by omega) (by omega) c39
      have C2 := WC_of (V := upd (upd W (96 + 2 * nv W 14) (Int32.ofNat t)) (96 + 2 * nv W 14 + 1) (W (376 + 103 * t + 1))) (upd_ne _ _ (by omega)) C1
      have s3 := s2.globS (k := 14) (o := 0) (s := 12) (x := W 14 + Int32.ofNat 1) C2 (by omega) (by omega) (by omega) rfl
      have C3 := WC_of (V := upd (upd (upd W (96 + 2 * nv W 14) (Int32.ofNat t)) (96 + 2 * nv W 14 + 1) (W (376 + 103 * t + 1))) 14 (W 14 + Int32.ofNat 1)) (upd_ne _ _ (by omega)) C2
      simp (disch := omega) only [zx_ne, zx_nk, q_of, upd_ne]
      rw [g4, g7, g12]
      rw [Nat.add_zero] at s3
      have r := s3.log (t := Int32.ofNat t) (w := Int32.ofNat 5) (v := W (376 + 103 * t + 1)) C3 (zxb (by simp (disch := omega) only [zx_ne]) hc.n60)
      rw [show upd (upd (upd W (96 + 2 * nv W 14) (Int32.ofNat t)) (96 + 2 * nv W 14 + 1) (W (376 + 103 * t + 1))) 14 (W 14 + Int32.ofNat 1) 11 = W 11 by simp (disch := omega) only [upd_ne]] at r
      have ev : W 14 + Int32.ofNat 1 = Int32.ofNat (nv W 14 + 1) := by rw [← i_add, ← o14.1]
      have x1 : WX (upd W (96 + 2 * nv W 14) (Int32.ofNat t)) := hx.glob (by omega) (by omega) (by omega)
      have x2 : WX (upd (upd W (96 + 2 * nv W 14) (Int32.ofNat t)) (96 + 2 * nv W 14 + 1) (W (376 + 103 * t + 1))) := x1.glob (by omega) (by omega) (by omega)
      have k2 : KG (upd (upd W (96 + 2 * nv W 14) (Int32.ofNat t)) (96 + 2 * nv W 14 + 1) (W (376 + 103 * t + 1))) t := ⟨x2.W, hA.of (by simp (disch := omega) only [upd_ne]) (by simp (disch := omega) only [upd_ne])⟩
      have x3 : WX (upd (upd (upd W (96 + 2 * nv W 14) (Int32.ofNat t)) (96 + 2 * nv W 14 + 1) (W (376 + 103 * t + 1))) 14 (W 14 + Int32.ofNat 1)) := by
        refine WX.mk ?_ (x2.1.2.2.2.of (fun j hj => upd_ne _ _ (by omega))) (x2.2.1.of (upd_ne _ _ (by omega))) (x2.2.2.1.of (upd_ne _ _ (by omega))) (fun u hu => (x2.T hu).of x2.W hu (fun c hc _ => upd_ne _ _ (by omega)))
        rw [ev]
        exact (k2.outs (by omega)).1
      refine ⟨r, x3.logs _ _ _, ?_, ?_, Or.inl ⟨rfl, rfl, rfl, Or.inl ?_⟩⟩
      · refine CG.logAdd ?_ _ _ _ _
        rw [ev]
        exact ((hc.put _ ncO.1).put _ ncO.2).seto (by omega)
      · refine (nv_of (logs_fr C3 (by omega) (by omega))).trans (nv_of ?_)
        simp (disch := omega) only [upd_ne]
      · refine (logs_fr C3 (by omega) (by omega)).trans ?_
        simp (disch := omega) only [upd_ne]
  · have q2 : zc2 .ne (q_of W t 2) (Int32.ofNat 1) = false := decide_eq_false (fun z => z e)
    rw [e, zeq1', cond_false, q2, cond_false]
    exact RD.fell h hx hc ht (by omega) e
