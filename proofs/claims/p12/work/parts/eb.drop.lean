/-! drops alike -/
theorem upd_self (W : Nat → Int32) (k : Nat) : upd W k (W k) = W := by
  funext j
  by_cases e : j = k
  · rw [e, upd_at]
  · rw [upd_ne _ _ e]
theorem ends_congr {V Z : Nat → Int32} {t : Nat} (e : ∀ j, j ≠ 376 + 103 * t + 10 → V j = Z j) : q_ends V t = q_ends Z t := by
  funext j
  unfold q_ends
  by_cases c1 : j = 376 + 103 * t + 17
  · rw [c1, upd_at, upd_at]
  · rw [upd_ne _ _ c1, upd_ne _ _ c1]
    by_cases c2 : j = 376 + 103 * t + 16
    · rw [c2, upd_at, upd_at]
    · rw [upd_ne _ _ c2, upd_ne _ _ c2]
      by_cases c3 : j = 376 + 103 * t + 15
      · rw [c3, upd_at, upd_at]
      · rw [upd_ne _ _ c3, upd_ne _ _ c3]
        by_cases c4 : j = 376 + 103 * t + 10
        · rw [c4, upd_at, upd_at]
        · rw [upd_ne _ _ c4, upd_ne _ _ c4]
          by_cases c5 : j = 376 + 103 * t + 2
          · rw [c5, upd_at, upd_at]
          · rw [upd_ne _ _ c5, upd_ne _ _ c5]
            exact e j c4
theorem isKept_congr {t l : Nat} (hl : l < 4) : ∀ (n k : Nat) (V Z : Nat → Int32), k + n = 32 → (∀ j, j ≠ 376 + 103 * t + 10 → V j = Z j) → l_isKept t l n k V = l_isKept t l n k Z := by
  intro n
  induction n with
  | zero =>
    intro k V Z hk e
    rw [l_isKept, l_isKept]
    refine congrArg (fun X => q_logs X (Int32.ofNat t) (Int32.ofNat 1) (Int32.ofNat l)) (ends_congr (fun j hj => ?_))
    have e5 := e 5 (by first | exact zq_adn (by decide) | exact zq_adr (zq_adn (by decide)) | omega)
    have e20 := e (20 + l) (by first | exact zq_adn (by decide) | exact zq_adr (zq_adn (by decide)) | omega)
    have e28 := e (28 + l) (by first | exact zq_adn (by decide) | exact zq_adr (zq_adn (by decide)) | omega)
    have e4 := e (376 + 103 * t + 4) (by first | exact zq_adn (by decide) | exact zq_adr (zq_adn (by decide)) | omega)
    rw [e5, e20]
    simp (disch := first | exact zq_adn (by decide) | exact zq_adr (zq_adn (by decide)) | omega) only [upd_ne]
    rw [e28, e4]
    by_cases c1 : j = 376 + 103 * t + 4
    · rw [c1, upd_at, upd_at]
    · rw [upd_ne _ _ c1, upd_ne _ _ c1]
      by_cases c2 : j = 376 + 103 * t + 3
      · rw [c2, upd_at, upd_at]
      · rw [upd_ne _ _ c2, upd_ne _ _ c2]
        by_cases c3 : j = 28 + l
        · rw [c3, upd_at, upd_at]
        · rw [upd_ne _ _ c3, upd_ne _ _ c3]
          by_cases c4 : j = 20 + l
          · rw [c4, upd_at, upd_at]
          · rw [upd_ne _ _ c4, upd_ne _ _ c4]
            exact e j hj
  | succ n ih =>
    intro k V Z hk e
    rw [l_isKept, l_isKept]
    have e17 : q_of V t 17 = q_of Z t 17 := e _ (by first | exact zq_adn (by decide) | exact zq_adr (zq_adn (by decide)) | omega)
    have ev : q_of V t (23 + k) = q_of Z t (23 + k) := e _ (by first | exact zq_adn (by decide) | exact zq_adr (zq_adn (by decide)) | omega)
    rw [e17, ev, ih (k + 1) V Z (by first | exact zq_adn (by decide) | exact zq_adr (zq_adn (by decide)) | omega) e, ih (k + 1) (upd V (32 + k) (q_of Z t (23 + k))) (upd Z (32 + k) (q_of Z t (23 + k))) (by first | exact zq_adn (by decide) | exact zq_adr (zq_adn (by decide)) | omega) (fun j hj => by
      by_cases c : j = 32 + k
      · rw [c, upd_at, upd_at]
      · rw [upd_ne _ _ c, upd_ne _ _ c]
        exact e j hj)]
/-- the end of a guess that is kept -/
theorem kept0_rx {m : Nat → Nat → Int32} {b : Nat} {W : Nat → Int32} {t l : Nat} (h : RC m b W) (hw : WG W) (hT : TB W) (h5 : ok W 5 0 9) (h8 : ok W 8 0 1) (hX : ∀ u, u < 4 → u ≠ t → WXt W u) (hk : WKt W t) (hc : CG m b) (ht : t < nv W 9) (hl : l < 4) (hA : AL W t) : RC (xl_keep b t l 0 32 m) b (l_isKept t l 0 32 W) ∧ WX (l_isKept t l 0 32 W) := by
  have h4 := hw.N4
  have ht4 : t < 4 := by omega
  have C := hw.C
  have g6 : m (b + 10 + 7 * t) 6 = W (376 + 103 * t + 4) := h.cellS ht4 (by first | exact zq_adn (by decide) | exact zq_adr (zq_adn (by decide)) | omega) (cnd0 ht (by first | exact zq_adn (by decide) | exact zq_adr (zq_adn (by decide)) | omega)) rfl
  have g5 : m (b + 3) 5 = W 5 := h.glob (k := 5) (by first | exact zq_adn (by decide) | exact zq_adr (zq_adn (by decide)) | omega) (by first | exact zq_adn (by decide) | exact zq_adr (zq_adn (by decide)) | omega)
  have g7 : m b 7 = W 11 := h.glob (k := 11) (by first | exact zq_adn (by decide) | exact zq_adr (zq_adn (by decide)) | omega) (by first | exact zq_adn (by decide) | exact zq_adr (zq_adn (by decide)) | omega)
  have l1 : m (b + 5 + l) 1 = W (20 + l) := h.lkR (k := 20 + l) (by first | exact zq_adn (by decide) | exact zq_adr (zq_adn (by decide)) | omega) (by first | exact zq_adn (by decide) | exact zq_adr (zq_adn (by decide)) | omega) (cm_20 hl)
  have l3 : m (b + 5 + l) 3 = W (28 + l) := h.lkR (k := 28 + l) (by first | exact zq_adn (by decide) | exact zq_adr (zq_adn (by decide)) | omega) (by first | exact zq_adn (by decide) | exact zq_adr (zq_adn (by decide)) | omega) (cm_28 hl)
  have s1 := h.ends C ht4
  have C1 : WC (q_ends W t) := WC_of (by simp (disch := first | exact zq_adn (by decide) | exact zq_adr (zq_adn (by decide)) | omega) only [q_ends, upd_ne]) C
  have s2 := s1.thS (c := 3) (o := 10) (s := 5) (x := Int32.ofNat 0) C1 ht4 (by first | exact zq_adn (by decide) | exact zq_adr (zq_adn (by decide)) | omega) (by first | exact zq_adn (by decide) | exact zq_adr (zq_adn (by decide)) | omega) rfl
  have C2 : WC (upd (q_ends W t) (376 + 103 * t + 3) (Int32.ofNat 0)) := WC_of (upd_ne _ _ (by first | exact zq_adn (by decide) | exact zq_adr (zq_adn (by decide)) | omega)) C1
  have s3 := s2.thS (c := 4) (o := 10) (s := 6) (x := W (376 + 103 * t + 4) + Int32.ofNat 1) C2 ht4 (by first | exact zq_adn (by decide) | exact zq_adr (zq_adn (by decide)) | omega) (by first | exact zq_adn (by decide) | exact zq_adr (zq_adn (by decide)) | omega) rfl
  have C3 : WC (upd (upd (q_ends W t) (376 + 103 * t + 3) (Int32.ofNat 0)) (376 + 103 * t + 4) (W (376 + 103 * t + 4) + Int32.ofNat 1)) := WC_of (upd_ne _ _ (by first | exact zq_adn (by decide) | exact zq_adr (zq_adn (by decide)) | omega)) C2
  have s4 := s3.lkS (k := 20 + l) (x := if W (20 + l) + W 5 < Int32.ofNat 15 then W (20 + l) + W 5 else Int32.ofNat 15) C3 (by first | exact zq_adn (by decide) | exact zq_adr (zq_adn (by decide)) | omega) (by first | exact zq_adn (by decide) | exact zq_adr (zq_adn (by decide)) | omega) (by first | exact zq_adn (by decide) | exact zq_adr (zq_adn (by decide)) | omega) (cm_20 hl)
  have C4 : WC (upd (upd (upd (q_ends W t) (376 + 103 * t + 3) (Int32.ofNat 0)) (376 + 103 * t + 4) (W (376 + 103 * t + 4) + Int32.ofNat 1)) (20 + l) (if W (20 + l) + W 5 < Int32.ofNat 15 then W (20 + l) + W 5 else Int32.ofNat 15)) := WC_of (upd_ne _ _ (by first | exact zq_adn (by decide) | exact zq_adr (zq_adn (by decide)) | omega)) C3
  have s5 := s4.lkS (k := 28 + l) (x := W (28 + l) + Int32.ofNat 1) C4 (by first | exact zq_adn (by decide) | exact zq_adr (zq_adn (by decide)) | omega) (by first | exact zq_adn (by decide) | exact zq_adr (zq_adn (by decide)) | omega) (by first | exact zq_adn (by decide) | exact zq_adr (zq_adn (by decide)) | omega) (cm_28 hl)
  have C5 : WC (upd (upd (upd (upd (q_ends W t) (376 + 103 * t + 3) (Int32.ofNat 0)) (376 + 103 * t + 4) (W (376 + 103 * t + 4) + Int32.ofNat 1)) (20 + l) (if W (20 + l) + W 5 < Int32.ofNat 15 then W (20 + l) + W 5 else Int32.ofNat 15)) (28 + l) (W (28 + l) + Int32.ofNat 1)) := WC_of (upd_ne _ _ (by first | exact zq_adn (by decide) | exact zq_adr (zq_adn (by decide)) | omega)) C4
  have eW : l_isKept t l 0 32 W = q_logs (upd (upd (upd (upd (q_ends W t) (376 + 103 * t + 3) (Int32.ofNat 0)) (376 + 103 * t + 4) (W (376 + 103 * t + 4) + Int32.ofNat 1)) (20 + l) (if W (20 + l) + W 5 < Int32.ofNat 15 then W (20 + l) + W 5 else Int32.ofNat 15)) (28 + l) (W (28 + l) + Int32.ofNat 1)) (Int32.ofNat t) (Int32.ofNat 1) (Int32.ofNat l) := by
    rw [l_isKept]
    refine congrArg (fun X => q_logs X (Int32.ofNat t) (Int32.ofNat 1) (Int32.ofNat l)) ?_
    simp (disch := first | exact zq_adn (by decide) | exact zq_adr (zq_adn (by decide)) | omega) only [upd_ne]
    funext j
    unfold q_ends
    by_cases c1 : j = 376 + 103 * t + 17
    · subst c1
      simp (disch := first | exact zq_adn (by decide) | exact zq_adr (zq_adn (by decide)) | omega) only [upd_at, upd_ne]
    · by_cases c2 : j = 376 + 103 * t + 16
      · subst c2
        simp (disch := first | exact zq_adn (by decide) | exact zq_adr (zq_adn (by decide)) | omega) only [upd_at, upd_ne]
      · by_cases c3 : j = 376 + 103 * t + 15
        · subst c3
          simp (disch := first | exact zq_adn (by decide) | exact zq_adr (zq_adn (by decide)) | omega) only [upd_at, upd_ne]
        · by_cases c4 : j = 376 + 103 * t + 10
          · subst c4
            simp (disch := first | exact zq_adn (by decide) | exact zq_adr (zq_adn (by decide)) | omega) only [upd_at, upd_ne]
          · by_cases c5 : j = 376 + 103 * t + 2
            · subst c5
              simp (disch := first | exact zq_adn (by decide) | exact zq_adr (zq_adn (by decide)) | omega) only [upd_at, upd_ne]
            · by_cases c6 : j = 376 + 103 * t + 4
              · subst c6
                simp (disch := first | exact zq_adn (by decide) | exact zq_adr (zq_adn (by decide)) | omega) only [upd_at, upd_ne]
              · by_cases c7 : j = 376 + 103 * t + 3
                · subst c7
                  simp (disch := first | exact zq_adn (by decide) | exact zq_adr (zq_adn (by decide)) | omega) only [upd_at, upd_ne]
                · by_cases c8 : j = 28 + l
                  · subst c8
                    simp (disch := first | exact zq_adn (by decide) | exact zq_adr (zq_adn (by decide)) | omega) only [upd_at, upd_ne]
                  · by_cases c9 : j = 20 + l
                    · subst c9
                      simp (disch := first | exact zq_adn (by decide) | exact zq_adr (zq_adn (by decide)) | omega) only [upd_at, upd_ne]
                    · simp (disch := first | exact zq_adn (by decide) | exact zq_adr (zq_adn (by decide)) | omega) only [upd_ne]
  have eM : xl_keep b t l 0 32 m = x_logAdd (zm2 (zm2 (zm2 (zm2 (x_close m b t) (b + 10 + 7 * t) 5 (Int32.ofNat 0)) (b + 10 + 7 * t) 6 (W (376 + 103 * t + 4) + Int32.ofNat 1)) (b + 5 + l) 1 (if W (20 + l) + W 5 < Int32.ofNat 15 then W (20 + l) + W 5 else Int32.ofNat 15)) (b + 5 + l) 3 (W (28 + l) + Int32.ofNat 1)) b (W 11) (Int32.ofNat t) (Int32.ofNat 1) (Int32.ofNat l) := by
    rw [xl_keep]
    simp (disch := first | exact zq_adn (by decide) | exact zq_adr (zq_adn (by decide)) | omega) only [xgain_eq, zx_ne, zx_nk, close_ne, g6, g5, l1, l3, g7]
  rw [eM, eW]
  have g11 : upd (upd (upd (upd (q_ends W t) (376 + 103 * t + 3) (Int32.ofNat 0)) (376 + 103 * t + 4) (W (376 + 103 * t + 4) + Int32.ofNat 1)) (20 + l) (if W (20 + l) + W 5 < Int32.ofNat 15 then W (20 + l) + W 5 else Int32.ofNat 15)) (28 + l) (W (28 + l) + Int32.ofNat 1) 11 = W 11 := by simp (disch := first | exact zq_adn (by decide) | exact zq_adr (zq_adn (by decide)) | omega) only [q_ends, upd_ne]
  have r := s5.log (t := Int32.ofNat t) (w := Int32.ofNat 1) (v := Int32.ofNat l) C5 (zxb (by simp (disch := first | exact zq_adn (by decide) | exact zq_adr (zq_adn (by decide)) | omega) only [close_ne, zx_ne]) hc.n60)
  rw [g11] at r
  refine ⟨r, ?_⟩
  have w0 : WG (upd (upd (upd (upd (q_ends W t) (376 + 103 * t + 3) (Int32.ofNat 0)) (376 + 103 * t + 4) (W (376 + 103 * t + 4) + Int32.ofNat 1)) (20 + l) (if W (20 + l) + W 5 < Int32.ofNat 15 then W (20 + l) + W 5 else Int32.ofNat 15)) (28 + l) (W (28 + l) + Int32.ofNat 1)) := ((((hw.ends ht4).put _ (fre_at ht4 (by first | exact zq_adn (by decide) | exact zq_adr (zq_adn (by decide)) | omega) (by unfold cT; omega))).put _ (fre_at ht4 (by first | exact zq_adn (by decide) | exact zq_adr (zq_adn (by decide)) | omega) (by unfold cT; omega))).put _ (fre_lo (by first | exact zq_adn (by decide) | exact zq_adr (zq_adn (by decide)) | omega) (by first | exact zq_adn (by decide) | exact zq_adr (zq_adn (by decide)) | omega))).put _ (fre_lo (by first | exact zq_adn (by decide) | exact zq_adr (zq_adn (by decide)) | omega) (by first | exact zq_adn (by decide) | exact zq_adr (zq_adn (by decide)) | omega))
  refine WX.logs (WX.mk w0 ⟨?_, fun k hk => ?_⟩ ?_ ?_ (fun u hu => ?_)) _ _ _
  · refine hT.1.of ?_
    simp (disch := first | exact zq_adn (by decide) | exact zq_adr (zq_adn (by decide)) | omega) only [q_ends, upd_ne]
  · by_cases q : k = l
    · subst q
      obtain ⟨n, n1, n2⟩ := gain_b (hT.2 k hk).2.2 h5.2.2
      rw [← (hT.2 k hk).1, ← h5.1] at n2
      refine ok.is (n := n) ?_ (by first | exact zq_adn (by decide) | exact zq_adr (zq_adn (by decide)) | omega) n1 (by first | exact zq_adn (by decide) | exact zq_adr (zq_adn (by decide)) | omega)
      rw [upd_ne _ _ (by first | exact zq_adn (by decide) | exact zq_adr (zq_adn (by decide)) | omega), upd_at]
      exact n2
    · refine (hT.2 k hk).of ?_
      simp (disch := first | exact zq_adn (by decide) | exact zq_adr (zq_adn (by decide)) | omega) only [q_ends, upd_ne]
  · refine h5.of ?_
    simp (disch := first | exact zq_adn (by decide) | exact zq_adr (zq_adn (by decide)) | omega) only [q_ends, upd_ne]
  · refine h8.of ?_
    simp (disch := first | exact zq_adn (by decide) | exact zq_adr (zq_adn (by decide)) | omega) only [q_ends, upd_ne]
  · by_cases q : u = t
    · subst q
      refine ⟨fun _ => ⟨?_, ?_, ?_⟩, fun e => ?_, hk.of hw hu ?_ ?_ ?_ (fun p hp => ?_)⟩
      · unfold q_ends
        simp (disch := first | exact zq_adn (by decide) | exact zq_adr (zq_adn (by decide)) | omega) only [upd_ne, upd_at]
      · unfold q_ends
        simp (disch := first | exact zq_adn (by decide) | exact zq_adr (zq_adn (by decide)) | omega) only [upd_ne, upd_at]
      · unfold q_ends
        simp (disch := first | exact zq_adn (by decide) | exact zq_adr (zq_adn (by decide)) | omega) only [upd_ne, upd_at]
      · exfalso
        unfold q_ends at e
        simp (disch := first | exact zq_adn (by decide) | exact zq_adr (zq_adn (by decide)) | omega) only [upd_ne, upd_at] at e
        exact absurd e (by decide)
      · simp (disch := first | exact zq_adn (by decide) | exact zq_adr (zq_adn (by decide)) | omega) only [q_ends, upd_ne]
      · simp (disch := first | exact zq_adn (by decide) | exact zq_adr (zq_adn (by decide)) | omega) only [q_ends, upd_ne]
      · simp (disch := first | exact zq_adn (by decide) | exact zq_adr (zq_adn (by decide)) | omega) only [q_ends, upd_ne]
      · simp (disch := first | exact zq_adn (by decide) | exact zq_adr (zq_adn (by decide)) | omega) only [q_ends, upd_ne]
    · refine (hX u hu q).of hw hu (fun c hc _ => ?_)
      simp (disch := first | exact zq_adn (by decide) | exact zq_adr (zq_adn (by decide)) | omega) only [q_ends, upd_ne]
theorem keepL_rx {b t l : Nat} (hl : l < 4) (ht4 : t < 4) : ∀ (n k : Nat) (m : Nat → Nat → Int32) (W : Nat → Int32), k + n = 32 → RC m b W → WG W → TB W → ok W 5 0 9 → ok W 8 0 1 → (∀ u, u < 4 → u ≠ t → WXt W u) → WKt W t → CG m b → t < nv W 9 → AL W t → W (376 + 103 * t + 2) = Int32.ofNat 1 → RC (xl_keep b t l n k m) b (l_isKept t l n k W) ∧ WX (l_isKept t l n k W) := by
  intro n
  induction n with
  | zero =>
    intro k m W hk h hw hT h5 h8 hX hK hc ht hA hg
    have : k = 32 := by omega
    subst this
    exact kept0_rx h hw hT h5 h8 hX hK hc ht hl hA
  | succ n ih =>
    intro k m W hk h hw hT h5 h8 hX hK hc ht hA hg
    have h4 := hw.N4
    have g1 : m (b + 1) k = W (32 + k) := h.globR (by first | exact zq_adn (by decide) | exact zq_adr (zq_adn (by decide)) | omega) (by first | exact zq_adn (by decide) | exact zq_adr (zq_adn (by decide)) | omega) (cm_w (by first | exact zq_adn (by decide) | exact zq_adr (zq_adn (by decide)) | omega))
    have g9 : m (b + 14 + 7 * t) 9 = W (376 + 103 * t + 17) := h.cellS ht4 (by first | exact zq_adn (by decide) | exact zq_adr (zq_adn (by decide)) | omega) (cnd0 ht (by first | exact zq_adn (by decide) | exact zq_adr (zq_adn (by decide)) | omega)) rfl
    have es : x_seenBy m b t k = bif zc1 .eq (q_holds (W (376 + 103 * t + 17)) k) then W (32 + k) else W (376 + 103 * t + (23 + k)) := by
      unfold x_seenBy x_hasValue
      rw [h.gs ht4 ht, hg, zeq1', cond_false, g1, g9, bit_eq]
      cases hb : zc1 .eq (q_holds (W (376 + 103 * t + 17)) k) with
      | true => rw [cond_true, zeq0, cond_true, cond_true]
      | false =>
        rw [cond_false, zeq1', cond_false, cond_false]
        rw [rb_k (by first | exact zq_adn (by decide) | exact zq_adr (zq_adn (by decide)) | omega)] at hb
        have hh : hbit (W (376 + 103 * t + 17)) k := (hbit_rb (by first | exact zq_adn (by decide) | exact zq_adr (zq_adn (by decide)) | omega)).mpr (by
          cases hr : rbt (W (376 + 103 * t + 17)) k with
          | true => rfl
          | false => rw [hr] at hb; exact absurd hb (by decide))
        exact h.cellS (c := 23 + k) ht4 (by first | exact zq_adn (by decide) | exact zq_adr (zq_adn (by decide)) | omega) ⟨ht, fun q => by omega, fun q => by omega, fun _ => by rw [show 23 + k - 23 = k by omega]; exact hh, fun q => by omega⟩ (cmT_v (by first | exact zq_adn (by decide) | exact zq_adr (zq_adn (by decide)) | omega))
    have r := h.globS (k := 32 + k) (o := 1) (s := k) (x := x_seenBy m b t k) hw.C (by first | exact zq_adn (by decide) | exact zq_adr (zq_adn (by decide)) | omega) (by first | exact zq_adn (by decide) | exact zq_adr (zq_adn (by decide)) | omega) (by first | exact zq_adn (by decide) | exact zq_adr (zq_adn (by decide)) | omega) (cm_w (by first | exact zq_adn (by decide) | exact zq_adr (zq_adn (by decide)) | omega))
    have eW : l_isKept t l (n + 1) k W = l_isKept t l n (k + 1) (upd W (32 + k) (x_seenBy m b t k)) := by
      rw [l_isKept, es]
      have q17 : q_of W t 17 = W (376 + 103 * t + 17) := rfl
      rw [q17]
      cases zc1 .eq (q_holds (W (376 + 103 * t + 17)) k) with
      | true => rw [cond_true, cond_true, upd_self]
      | false => rfl
    rw [xl_keep, eW]
    have u : ∀ j, j ≠ 32 + k → upd W (32 + k) (x_seenBy m b t k) j = W j := fun j hj => upd_ne _ _ hj
    refine ih _ _ _ (by first | exact zq_adn (by decide) | exact zq_adr (zq_adn (by decide)) | omega) r (hw.put _ (fre_lo (by first | exact zq_adn (by decide) | exact zq_adr (zq_adn (by decide)) | omega) (by first | exact zq_adn (by decide) | exact zq_adr (zq_adn (by decide)) | omega))) (hT.of (fun j hj => u j (by first | exact zq_adn (by decide) | exact zq_adr (zq_adn (by decide)) | omega))) (h5.of (u _ (by first | exact zq_adn (by decide) | exact zq_adr (zq_adn (by decide)) | omega))) (h8.of (u _ (by first | exact zq_adn (by decide) | exact zq_adr (zq_adn (by decide)) | omega))) (fun v hv hvt => (hX v hv hvt).of hw hv (fun c hc _ => u _ (by first | exact zq_adn (by decide) | exact zq_adr (zq_adn (by decide)) | omega))) (hK.of hw ht4 (u _ (by first | exact zq_adn (by decide) | exact zq_adr (zq_adn (by decide)) | omega)) (u _ (by first | exact zq_adn (by decide) | exact zq_adr (zq_adn (by decide)) | omega)) (u _ (by first | exact zq_adn (by decide) | exact zq_adr (zq_adn (by decide)) | omega)) (fun p hp => u _ (by first | exact zq_adn (by decide) | exact zq_adr (zq_adn (by decide)) | omega))) (hc.put _ ncW) (by rw [nv_of (u 9 (by first | exact zq_adn (by decide) | exact zq_adr (zq_adn (by decide)) | omega))]; exact ht) (hA.of (u _ (by first | exact zq_adn (by decide) | exact zq_adr (zq_adn (by decide)) | omega)) (u _ (by first | exact zq_adn (by decide) | exact zq_adr (zq_adn (by decide)) | omega))) ((u _ (by first | exact zq_adn (by decide) | exact zq_adr (zq_adn (by decide)) | omega)).trans hg)
theorem isKept_9 {t l : Nat} (hl : l < 4) : ∀ (n k : Nat) (W : Nat → Int32), k + n = 32 → WC W → l_isKept t l n k W 9 = W 9 ∧ l_isKept t l n k W (376 + 103 * t + 21) = W (376 + 103 * t + 21) := by
  intro n
  induction n with
  | zero =>
    intro k W _ C
    rw [l_isKept]
    constructor
    · rw [logs_fr (WC_of (by simp (disch := first | exact zq_adn (by decide) | exact zq_adr (zq_adn (by decide)) | omega) only [q_ends, upd_ne]) C) (by first | exact zq_adn (by decide) | exact zq_adr (zq_adn (by decide)) | omega) (by first | exact zq_adn (by decide) | exact zq_adr (zq_adn (by decide)) | omega)]
      simp (disch := first | exact zq_adn (by decide) | exact zq_adr (zq_adn (by decide)) | omega) only [q_ends, upd_ne]
    · rw [logs_fr (WC_of (by simp (disch := first | exact zq_adn (by decide) | exact zq_adr (zq_adn (by decide)) | omega) only [q_ends, upd_ne]) C) (by first | exact zq_adn (by decide) | exact zq_adr (zq_adn (by decide)) | omega) (by first | exact zq_adn (by decide) | exact zq_adr (zq_adn (by decide)) | omega)]
      simp (disch := first | exact zq_adn (by decide) | exact zq_adr (zq_adn (by decide)) | omega) only [q_ends, upd_ne]
  | succ n ih =>
    intro k W hk C
    rw [l_isKept]
    cases zc1 .eq (q_holds (q_of W t 17) k) with
    | true => exact ih _ _ (by first | exact zq_adn (by decide) | exact zq_adr (zq_adn (by decide)) | omega) C
    | false =>
      obtain ⟨a, c⟩ := ih (k + 1) (upd W (32 + k) (q_of W t (23 + k))) (by first | exact zq_adn (by decide) | exact zq_adr (zq_adn (by decide)) | omega) (WC_of (upd_ne _ _ (by first | exact zq_adn (by decide) | exact zq_adr (zq_adn (by decide)) | omega)) C)
      exact ⟨a.trans (upd_ne _ _ (by first | exact zq_adn (by decide) | exact zq_adr (zq_adn (by decide)) | omega)), c.trans (upd_ne _ _ (by first | exact zq_adn (by decide) | exact zq_adr (zq_adn (by decide)) | omega))⟩
theorem drop_rx {m mm : Nat → Nat → Int32} {b : Nat} {W : Nat → Int32} {t l : Nat} (h : RC m b W) (hx : WX W) (hc : CG m b) (ht : t < nv W 9) (hl : l < 4) (hA : AL W t) : RD b t mm W (x_dropLock m b t l) (q_drops mm W t l) := by
  have h4 := hx.W.N4
  have ht4 : t < 4 := by omega
  have w32 := hx.W.lk32 hl
  have hwr := writes_rx (mm := mm) (w := nv W (16 + l)) (v := Int32.ofNat 0) h hx hc ht w32 (by decide)
  have hw9 := writes_9 (mm := mm) (t := t) (w := nv W (16 + l)) (v := Int32.ofNat 0) hx.W ht4
  have g0 := h.gs ht4 ht
  obtain ⟨p1, p2, p3⟩ := place_rx (l := Int32.ofNat l) h hx ht
  unfold x_dropLock q_drops
  rw [h.lw hl, g0, zne2_n (q_placeLeft W t (Int32.ofNat l)) (-1), p1]
  rcases hx.W.g01 ht4 with e | e
  · -- not guessing: nothing is left out
    have q10 : W (376 + 103 * t + 10) = Int32.ofNat 0 := (hx.W.2 t ht4).2.2.2.2.2.2.1 e
    have n10 : nv W (376 + 103 * t + 10) = 0 := by unfold nv; rw [q10, nv_on (by first | exact zq_adn (by decide) | exact zq_adr (zq_adn (by decide)) | omega)]
    have pl : q_placeLeft W t (Int32.ofNat l) = -1 := by
      unfold q_placeLeft
      rw [n10]
      rfl
    have q2 : zc2 .ne (q_of W t 2) (Int32.ofNat 1) = true := decide_eq_true (by show ¬ W (376 + 103 * t + 2) = Int32.ofNat 1; rw [e]; decide)
    rw [e, zeq0, cond_true, pl, show zc2 .eq (-1 : Int32) (-1) = true from by decide, Bool.not_true, cond_false, q2, cond_true]
    generalize x_reach m b t (nv W (16 + l)) (Int32.ofNat 0) = P at hwr ⊢
    generalize q_writes mm W t (nv W (16 + l)) (Int32.ofNat 0) = Q at hwr hw9 ⊢
    obtain ⟨pp, m'⟩ := P
    obtain ⟨qq, W', mm'⟩ := Q
    obtain ⟨h', x', c', d⟩ := hwr
    rcases d with ⟨d1, d2, d3, f⟩ | ⟨-, -, -, d4⟩
    rotate_left
    · rw [e] at d4
      exact absurd d4 (by decide)
    dsimp only at h' x' c' d1 d2 d3 f hw9 ⊢
    subst d1
    subst d2
    subst d3
    have n9 : nv W' 9 = nv W 9 := nv_of hw9
    have e2 : W' (376 + 103 * t + 2) = Int32.ofNat 0 := (f.2 2 (by first | exact zq_adn (by decide) | exact zq_adr (zq_adn (by decide)) | omega) (by first | exact zq_adn (by decide) | exact zq_adr (zq_adn (by decide)) | omega) (by first | exact zq_adn (by decide) | exact zq_adr (zq_adn (by decide)) | omega)).trans e
    have g7 : m' b 7 = W' 11 := h'.glob (k := 11) (by first | exact zq_adn (by decide) | exact zq_adr (zq_adn (by decide)) | omega) (by first | exact zq_adn (by decide) | exact zq_adr (zq_adn (by decide)) | omega)
    rw [zn1, cond_true, show zc2 .ne (Int32.ofNat 1) (Int32.ofNat 1) = false from by decide, cond_false, h'.gs ht4 (by first | exact zq_adn (by decide) | exact zq_adr (zq_adn (by decide)) | omega), e2, zne0, cond_false, g7]
    refine ⟨h'.log x'.W.C c'.n60, x'.logs _ _ _, c'.logAdd _ _ _ _, ?_, Or.inl ⟨rfl, rfl, rfl, Or.inl ?_⟩⟩
    · exact (nv_of (logs_fr x'.W.C (by first | exact zq_adn (by decide) | exact zq_adr (zq_adn (by decide)) | omega) (by first | exact zq_adn (by decide) | exact zq_adr (zq_adn (by decide)) | omega))).trans n9
    · exact (logs_fr x'.W.C (by first | exact zq_adn (by decide) | exact zq_adr (zq_adn (by decide)) | omega) (by first | exact zq_adn (by decide) | exact zq_adr (zq_adn (by decide)) | omega)).trans (f.2 21 (by first | exact zq_adn (by decide) | exact zq_adr (zq_adn (by decide)) | omega) (by first | exact zq_adn (by decide) | exact zq_adr (zq_adn (by decide)) | omega) (by first | exact zq_adn (by decide) | exact zq_adr (zq_adn (by decide)) | omega))
  · have q2 : zc2 .ne (q_of W t 2) (Int32.ofNat 1) = false := decide_eq_false (fun z => z e)
    rw [e, zeq1', cond_false, q2, cond_false]
    cases hp : zc2 .eq (q_placeLeft W t (Int32.ofNat l)) (-1) with
    | true =>
      simp only [cnT, cnF, Bool.not_true]
      generalize x_reach m b t (nv W (16 + l)) (Int32.ofNat 0) = P at hwr ⊢
      generalize q_writes mm W t (nv W (16 + l)) (Int32.ofNat 0) = Q at hwr hw9 ⊢
      obtain ⟨pp, m'⟩ := P
      obtain ⟨qq, W', mm'⟩ := Q
      have D := hwr.d hw9
      obtain ⟨h', x', c', d⟩ := hwr
      rcases d with ⟨d1, d2, d3, f⟩ | ⟨d1, d2, d3, -⟩
      · dsimp only at h' x' c' d1 d2 d3 f hw9 D ⊢
        subst d1
        subst d2
        subst d3
        have n9 : nv W' 9 = nv W 9 := nv_of hw9
        have e2 : W' (376 + 103 * t + 2) = Int32.ofNat 1 := (f.2 2 (by first | exact zq_adn (by decide) | exact zq_adr (zq_adn (by decide)) | omega) (by first | exact zq_adn (by decide) | exact zq_adr (zq_adn (by decide)) | omega) (by first | exact zq_adn (by decide) | exact zq_adr (zq_adn (by decide)) | omega)).trans e
        rw [zn1, cond_true, show zc2 .ne (Int32.ofNat 1) (Int32.ofNat 1) = false from by decide, cond_false, h'.gs ht4 (by first | exact zq_adn (by decide) | exact zq_adr (zq_adn (by decide)) | omega), e2, zn1, cond_true]
        exact D
      · dsimp only at h' x' c' d1 d2 d3 hw9 D ⊢
        subst d1
        subst d2
        subst d3
        rw [zne0, cond_false, show zc2 .ne (-1 : Int32) (Int32.ofNat 1) = true from by decide, cond_true]
        exact D
    | false =>
      simp only [cnT, cnF, Bool.not_false]
      have n1 := hx.1.2.2.1 t ht4 e
      obtain ⟨o1, o2, o3⟩ := (hx.W.2 t ht4).2.1
      have p2' := p2 n1
      cases hL : zc2 .eq (x_latest m b t) (Int32.ofNat l) with
      | false =>
        rw [p2', hL]
        exact RD.fell h hx hc ht (by first | exact zq_adn (by decide) | exact zq_adr (zq_adn (by decide)) | omega) e
      | true =>
        rw [p2', hL]
        rw [hL] at p2'
        have ep : q_placeLeft W t (Int32.ofNat l) = Int32.ofNat (nv W (376 + 103 * t + 10) - 1) := by
          rw [of_decide_eq_true p2', show q_of W t 10 = Int32.ofNat (nv W (376 + 103 * t + 10)) from o1, i_sub n1]
        have ev : W (376 + 103 * t + 10) - Int32.ofNat 1 = Int32.ofNat (nv W (376 + 103 * t + 10) - 1) := by
          rw [← i_sub n1, ← o1]
        simp only [cnT]
        rw [h.left ht4 ht, ev, ep, zx_at]
        by_cases n2 : nv W (376 + 103 * t + 10) = 1
        · rw [n2, show 1 - 1 = 0 from rfl, zne0, cond_false, cond_false]
          have r0 := h.q1 (t := t) (n := 0) (x := Int32.ofNat 0) hx.W.C ht4 rfl (by first | exact zq_adn (by decide) | exact zq_adr (zq_adn (by decide)) | omega) (fun j hj => absurd hj (Nat.not_lt_zero _))
          have u : ∀ j, j ≠ 376 + 103 * t + 10 → upd W (376 + 103 * t + 10) (Int32.ofNat 0) j = W j := fun j hj => upd_ne _ _ hj
          have k0 := KG.qty (n := 0) ⟨hx.W, hA⟩ ht4 (by first | exact zq_adn (by decide) | exact zq_adr (zq_adn (by decide)) | omega) (by rw [e]; decide)
          have kk := keepL_rx (b := b) (t := t) (l := l) hl ht4 32 0 (zm2 m (b + 14 + 7 * t) 5 (Int32.ofNat 0)) (upd W (376 + 103 * t + 10) (Int32.ofNat 0)) rfl r0 k0.1 (hx.1.2.2.2.of (fun j hj => u j (by first | exact zq_adn (by decide) | exact zq_adr (zq_adn (by decide)) | omega))) (hx.2.1.of (u _ (by first | exact zq_adn (by decide) | exact zq_adr (zq_adn (by decide)) | omega))) (hx.2.2.1.of (u _ (by first | exact zq_adn (by decide) | exact zq_adr (zq_adn (by decide)) | omega))) (fun v hv hvt => (hx.T hv).of hx.W hv (fun c hc _ => u _ (by first | exact zq_adn (by decide) | exact zq_adr (zq_adn (by decide)) | omega))) ((hx.2.2.2 t ht4).of hx.W ht4 (u _ (by first | exact zq_adn (by decide) | exact zq_adr (zq_adn (by decide)) | omega)) (u _ (by first | exact zq_adn (by decide) | exact zq_adr (zq_adn (by decide)) | omega)) (u _ (by first | exact zq_adn (by decide) | exact zq_adr (zq_adn (by decide)) | omega)) (fun p hp => u _ (by first | exact zq_adn (by decide) | exact zq_adr (zq_adn (by decide)) | omega))) (hc.setq ht4 (by first | exact zq_adn (by decide) | exact zq_adr (zq_adn (by decide)) | omega)) (by rw [nv_of (u 9 (by first | exact zq_adn (by decide) | exact zq_adr (zq_adn (by decide)) | omega))]; exact ht) k0.2 ((u _ (by first | exact zq_adn (by decide) | exact zq_adr (zq_adn (by decide)) | omega)).trans e)
          rw [isKept_congr hl 32 0 _ W rfl u] at kk
          obtain ⟨i9, i21⟩ := isKept_9 (t := t) hl 32 0 W rfl hx.W.C
          exact ⟨kk.1, kk.2, (hc.setq ht4 (by first | exact zq_adn (by decide) | exact zq_adr (zq_adn (by decide)) | omega)).keep ht4 hl, nv_of i9, Or.inl ⟨rfl, rfl, rfl, Or.inl i21⟩⟩
        · have z : ∀ k, k < 4 → 1 ≤ k → zc1 .ne (Int32.ofNat k) = true := by decide +kernel
          rw [z _ (by first | exact zq_adn (by decide) | exact zq_adr (zq_adn (by decide)) | omega) (by first | exact zq_adn (by decide) | exact zq_adr (zq_adn (by decide)) | omega), cond_true, cond_true]
          have u : ∀ j, j ≠ 376 + 103 * t + 10 → upd W (376 + 103 * t + 10) (Int32.ofNat (nv W (376 + 103 * t + 10) - 1)) j = W j := fun j hj => upd_ne _ _ hj
          have k0 := KG.qty (n := nv W (376 + 103 * t + 10) - 1) ⟨hx.W, hA⟩ ht4 (by first | exact zq_adn (by decide) | exact zq_adr (zq_adn (by decide)) | omega) (by rw [e]; decide)
          refine ⟨h.q1 (t := t) hx.W.C ht4 rfl (by first | exact zq_adn (by decide) | exact zq_adr (zq_adn (by decide)) | omega) (fun j hj => h.lo ht4 ht (by first | exact zq_adn (by decide) | exact zq_adr (zq_adn (by decide)) | omega) (by first | exact zq_adn (by decide) | exact zq_adr (zq_adn (by decide)) | omega)), hx.one ht4 k0.1 (fun k hk => u k (by first | exact zq_adn (by decide) | exact zq_adr (zq_adn (by decide)) | omega)) (fun v hv hvt c hc => u _ (by first | exact zq_adn (by decide) | exact zq_adr (zq_adn (by decide)) | omega)) ⟨fun q => ?_, fun _ => ?_, (hx.2.2.2 t ht4).of hx.W ht4 (u _ (by first | exact zq_adn (by decide) | exact zq_adr (zq_adn (by decide)) | omega)) (u _ (by first | exact zq_adn (by decide) | exact zq_adr (zq_adn (by decide)) | omega)) (u _ (by first | exact zq_adn (by decide) | exact zq_adr (zq_adn (by decide)) | omega)) (fun p hp => u _ (by first | exact zq_adn (by decide) | exact zq_adr (zq_adn (by decide)) | omega))⟩, hc.setq ht4 (by first | exact zq_adn (by decide) | exact zq_adr (zq_adn (by decide)) | omega), nv_of (u 9 (by first | exact zq_adn (by decide) | exact zq_adr (zq_adn (by decide)) | omega)), Or.inl ⟨rfl, rfl, rfl, Or.inl (u _ (by first | exact zq_adn (by decide) | exact zq_adr (zq_adn (by decide)) | omega))⟩⟩
          · dsimp only at q
            rw [u _ (by first | exact zq_adn (by decide) | exact zq_adr (zq_adn (by decide)) | omega), e] at q
            exact absurd q (by decide)
          · dsimp only
            show 1 ≤ (upd W (376 + 103 * t + 10) (Int32.ofNat (nv W (376 + 103 * t + 10) - 1)) (376 + 103 * t + 10)).toNatClampNeg
            rw [upd_at, nv_on (by first | exact zq_adn (by decide) | exact zq_adr (zq_adn (by decide)) | omega)]
            omega
