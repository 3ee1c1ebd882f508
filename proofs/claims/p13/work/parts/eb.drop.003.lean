theorem kept0_rx {m : Nat → Nat → Int32} {b : Nat} {W : Nat → Int32} {t l : Nat} (h : RC m b W) (hw : WG W) (hT : TB W) (h5 : ok W 5 0 9) (h8 : ok W 8 0 1) (hX : ∀ u, u < 4 → u ≠ t → WXt W u) (hk : WKt W t) (hc : CG m b) (ht : t < nv W 9) (hl : l < 4) (hA : AL W t) : RC (xl_keep b t l 0 32 m) b (l_isKept t l 0 32 W) ∧ WX (l_isKept t l 0 32 W) := by
  have h4 := hw.N4
  have ht4 : t < 4 := by omega
  have C := hw.C
  have g6 : m (b + 10 + 7 * t) 6 = W (376 + 103 * t + 4) := h.cellS ht4 (by omega) (cnd0 ht (by omega)) rfl
  have g5 : m (b + 3) 5 = W 5 := h.glob (k := 5) (by omega) (by omega)
  have g7 : m b 7 = W 11 := h.glob (k := 11) (by omega) (by omega)
  have l1 : m (b + 5 + l) 1 = W (20 + l) := h.lkR (k := 20 + l) (by omega) (by omega) (cm_20 hl)
  have l3 : m (b + 5 + l) 3 = W (28 + l) := h.lkR (k := 28 + l) (by omega) (by omega) (cm_28 hl)
  have s1 := h.ends C ht4
  have C1 : WC (q_ends W t) := WC_of (by simp (disch := omega) only [q_ends, upd_ne]) C
  have s2 := s1.thS (c := 3) (o := 10) (s := 5) (x := Int32.ofNat 0) C1 ht4 (by omega) (by omega) rfl
  have C2 : WC (upd (q_ends W t) (376 + 103 * t + 3) (Int32.ofNat 0)) := WC_of (upd_ne _ _ (by omega)) C1
  have s3 := s2.thS (c := 4) (o := 10) (s := 6) (x := W (376 + 103 * t + 4) + Int32.ofNat 1) C2 ht4 (by omega) (by omega) rfl
  have C3 : WC (upd (upd (q_ends W t) (376 + 103 * t + 3) (Int32.ofNat 0)) (376 + 103 * t + 4) (W (376 + 103 * t + 4) + Int32.ofNat 1)) := WC_of (upd_ne _ _ (by omega)) C2
  have s4 := s3.lkS (k := 20 + l) (x := if W (20 + l) + W 5 < Int32.ofNat 15 then W (20 + l) + W 5 else Int32.ofNat 15) C3 (by omega) (by omega) (by omega) (cm_20 hl)
  have C4 : WC (upd (upd (upd (q_ends W t) (376 + 103 * t + 3) (Int32.ofNat 0)) (376 + 103 * t + 4) (W (376 + 103 * t + 4) + Int32.ofNat 1)) (20 + l) (if W (20 + l) + W 5 < Int32.ofNat 15 then W (20 + l) + W 5 else Int32.ofNat 15)) := WC_of (upd_ne _ _ (by omega)) C3
  have s5 := s4.lkS (k := 28 + l) (x := W (28 + l) + Int32.ofNat 1) C4 (by omega) (by omega) (by omega) (cm_28 hl)
  have C5 : WC (upd (upd (upd (upd (q_ends W t) (376 + 103 * t + 3) (Int32.ofNat 0)) (376 + 103 * t + 4) (W (376 + 103 * t + 4) + Int32.ofNat 1)) (20 + l) (if W (20 + l) + W 5 < Int32.ofNat 15 then W (20 + l) + W 5 else Int32.ofNat 15)) (28 + l) (W (28 + l) + Int32.ofNat 1)) := WC_of (upd_ne _ _ (by omega)) C4
  have eW : l_isKept t l 0 32 W = q_logs (upd (upd (upd (upd (q_ends W t) (376 + 103 * t + 3) (Int32.ofNat 0)) (376 + 103 * t + 4) (W (376 + 103 * t + 4) + Int32.ofNat 1)) (20 + l) (if W (20 + l) + W 5 < Int32.ofNat 15 then W (20 + l) + W 5 else Int32.ofNat 15)) (28 + l) (W (28 + l) + Int32.ofNat 1)) (Int32.ofNat t) (Int32.ofNat 1) (Int32.ofNat l) := by
    rw [l_isKept]
    refine congrArg (fun X => q_logs X (Int32.ofNat t) (Int32.ofNat 1) (Int32.ofNat l)) ?_
    simp (disch := omega) only [upd_ne]
    funext j
    unfold q_ends
    by_cases c1 : j = 376 + 103 * t + 17
    · subst c1
      simp (disch := omega) only [upd_at, upd_ne]
    · by_cases c2 : j = 376 + 103 * t + 16
      · subst c2
        simp (disch := omega) only [upd_at, upd_ne]
      · by_cases c3 : j = 376 + 103 * t + 15
        · subst c3
          simp (disch := omega) only [upd_at, upd_ne]
        · by_cases c4 : j = 376 + 103 * t + 10
          · subst c4
            simp (disch := omega) only [upd_at, upd_ne]
          · by_cases c5 : j = 376 + 103 * t + 2
            · subst c5
              simp (disch := omega) only [upd_at, upd_ne]
            · by_cases c6 : j = 376 + 103 * t + 4
              · subst c6
                simp (disch := omega) only [upd_at, upd_ne]
              · by_cases c7 : j = 376 + 103 * t + 3
                · subst c7
                  simp (disch := omega) only [upd_at, upd_ne]
                · by_cases c8 : j = 28 + l
                  · subst c8
                    simp (disch := omega) only [upd_at, upd_ne]
                  · by_cases c9 : j = 20 + l
                    · subst c9
                      simp (disch := omega) only [upd_at, upd_ne]
                    · simp (disch := omega) only [upd_ne]
  have eM : xl_keep b t l 0 32 m = x_logAdd (zm2 (zm2 (zm2 (zm2 (x_close m b t) (b + 10 + 7 * t) 5 (Int32.ofNat 0)) (b + 10 + 7 * t) 6 (W (376 + 103 * t + 4) + Int32.ofNat 1)) (b + 5 + l) 1 (if W (20 + l) + W 5 < Int32.ofNat 15 then W (20 + l) + W 5 else Int32.ofNat 15)) (b + 5 + l) 3 (W (28 + l) + Int32.ofNat 1)) b (W 11) (Int32.ofNat t) (Int32.ofNat 1) (Int32.ofNat l) := by
    rw [xl_keep]
    simp (disch := omega) only [xgain_eq, zx_ne, zx_nk, close_ne, g6, g5, l1, l3, g7]
  rw [eM, eW]
  have g11 : upd (upd (upd (upd (q_ends W t) (376 + 103 * t + 3) (Int32.ofNat 0)) (376 + 103 * t + 4) (W (376 + 103 * t + 4) + Int32.ofNat 1)) (20 + l) (if W (20 + l) + W 5 < Int32.ofNat 15 then W (20 + l) + W 5 else Int32.ofNat 15)) (28 + l) (W (28 + l) + Int32.ofNat 1) 11 = W 11 := by simp (disch := omega) only [q_ends, upd_ne]
  have r := s5.log (t := Int32.ofNat t) (w := Int32.ofNat 1) (v := Int32.ofNat l) C5 (zxb (by simp (disch := omega) only [close_ne, zx_ne]) hc.n60)
  rw [g11] at r
  refine ⟨r, ?_⟩
  have w0 : WG (upd (upd (upd (upd (q_ends W t) (376 + 103 * t + 3) (Int32.ofNat 0)) (376 + 103 * t + 4) (W (376 + 103 * t + 4) + Int32.ofNat 1)) (20 + l) (if W (20 + l) + W 5 < Int32.ofNat 15 then W (20 + l) + W 5 else Int32.ofNat 15)) (28 + l) (W (28 + l) + Int32.ofNat 1)) := ((((hw.ends ht4).put _ (fre_at ht4 (by omega) (by unfold cT; omega))).put _ (fre_at ht4 (by omega) (by unfold cT; omega))).put _ (fre_lo (by omega) (by omega))).put _ (fre_lo (by omega) (by omega))
  refine WX.logs (WX.mk w0 ⟨?_, fun k hk => ?_⟩ ?_ ?_ (fun u hu => ?_)) _ _ _
  · refine hT.1.of ?_
    simp (disch := omega) only [q_ends, upd_ne]
  · by_cases q : k = l
    · subst q
      obtain ⟨n, n1, n2⟩ := gain_b (hT.2 k hk).2.2 h5.2.2
      rw [← (hT.2 k hk).1, ← h5.1] at n2
      refine ok.is (n := n) ?_ (by omega) n1 (by omega)
      rw [upd_ne _ _ (by omega), upd_at]
      exact n2
    · refine (hT.2 k hk).of ?_
      simp (disch := omega) only [q_ends, upd_ne]
  · refine h5.of ?_
    simp (disch := omega) only [q_ends, upd_ne]
  · refine h8.of ?_
    simp (disch := omega) only [q_ends, upd_ne]
  · by_cases q : u = t
    · subst q
      refine ⟨fun _ => ⟨?_, ?_, ?_⟩, fun e => ?_, hk.of hw hu ?_ ?_ ?_ (fun p hp => ?_)⟩
      · unfold q_ends
        simp (disch := omega) only [upd_ne, upd_at]
      · unfold q_ends
        simp (disch := omega) only [upd_ne, upd_at]
      · unfold q_ends
        simp (disch := omega) only [upd_ne, upd_at]
      · exfalso
        unfold q_ends at e
        simp (disch := omega) only [upd_ne, upd_at] at e
        exact absurd e (by decide)
      · simp (disch := omega) only [q_ends, upd_ne]
      · simp (disch := omega) only [q_ends, upd_ne]
      · simp (disch := omega) only [q_ends, upd_ne]
      · simp (disch := omega) only [q_ends, upd_ne]
    · refine (hX u hu q).of hw hu (fun c hc _ => ?_)
      simp (disch := omega) only [q_ends, upd_ne]
