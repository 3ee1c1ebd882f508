theorem step_rx {m mm : Nat → Nat → Int32} {b : Nat} {W : Nat → Int32} {t : Nat} (h : RC m b W) (hx : WX W) (hc : CG m b) (ht : t < nv W 9) (hA : AL W t) (hs : ok W (376 + 103 * t + 1) 0 9999) : RZt b (x_takeStep m b t) (q_steps mm W t) := by
  have h4 := hx.W.N4
  have ht4 : t < 4 := by omega
  have hk : KG W t := ⟨hx.W, hA⟩
  obtain ⟨d24, dg⟩ := hk.deed ht4
  have hA' : nv W (376 + 103 * t + 0) < nv W (376 + 103 * t + 22) := hA
  have g3 : mv m (b + 10 + 7 * t) 3 = nv W (376 + 103 * t + 0) := by
    have q : m (b + 10 + 7 * t) 3 = W (376 + 103 * t + 0) := h.cellS ht4 (by omega) (cnd0 ht (by omega)) rfl
    unfold mv nv
    rw [q]
  obtain ⟨gk, gn⟩ := h.deed ht4 ht hA' d24
  have ek : mv m (b + 11 + 7 * t) (nv W (376 + 103 * t + 0)) = nv W (376 + 103 * t + (55 + 2 * nv W (376 + 103 * t + 0))) := by
    unfold mv
    rw [gk]
    rfl
  have en : mv m (b + 12 + 7 * t) (nv W (376 + 103 * t + 0)) = nv W (376 + 103 * t + (55 + 2 * nv W (376 + 103 * t + 0) + 1)) := by
    unfold mv
    rw [gn]
    rfl
  have e5 : zm2 mm 137 5 (Int32.ofNat 0) 137 5 = Int32.ofNat 0 := zx_at _ _ _ _
  obtain ⟨D1, D2, D3, D4⟩ := dg
  have hwk := hx.2.2.2 t ht4
  have ok' := does_ok (m := zm2 mm 137 5 (Int32.ofNat 0)) (n := nv W (376 + 103 * t + (55 + 2 * nv W (376 + 103 * t + 0) + 1))) hk ht4 (K := nv W (376 + 103 * t + (55 + 2 * nv W (376 + 103 * t + 0)))) (by have := D1.2.2; omega) D3 D4
  have hK7 := D1.2.2
  unfold WKt at hwk
  unfold x_takeStep q_steps
  generalize hKe : nv W (376 + 103 * t + (55 + 2 * nv W (376 + 103 * t + 0))) = K at ek ok' D3 D4 hK7 hwk ⊢
  rw [g3, ek]
  have h21 : K ≠ 6 → W (376 + 103 * t + 21) = Int32.ofNat 0 := by
    intro k6
    rcases hwk with e | ⟨_, e⟩
    · exact e
    · exact absurd e k6
  generalize nv W (376 + 103 * t + (55 + 2 * nv W (376 + 103 * t + 0) + 1)) = n at en ok' D3 D4 ⊢
  generalize zm2 mm 137 5 (Int32.ofNat 0) = mz at e5 ok' ⊢
  match K, hK7, hKe with
  | 0, _, _ =>
    have eD : q_does mz W t 0 n = q_takes mz W t n := rfl
    rw [eD] at ok' ⊢
    unfold x_takeStep0
    rw [g3, en, h.gs ht4 ht]
    have hn := D3 (by omega)
    rcases hx.W.g01 ht4 with e | e
    · rw [e, zeq0, cond_true]
      exact after_rx (takeP_rx (mm := mz) h hx hc ht (show n < 4 by omega) hA e) ht ok'.1 (h21 (by omega)) e5
    · rw [e, zeq1', cond_false]
      exact after_rx (takeG_rx (mm := mz) h hx hc ht (show n < 4 by omega) hA e) ht ok'.1 (h21 (by omega)) e5
  | 1, _, _ =>
    have eD : q_does mz W t 1 n = q_drops mz W t n := rfl
    rw [eD] at ok' ⊢
    unfold x_takeStep1
    rw [g3, en]
    have hn := D3 (by omega)
    exact after_rx (drop_rx (mm := mz) h hx hc ht (show n < 4 by omega) hA) ht ok'.1 (h21 (by omega)) e5
  | 2, _, _ =>
    have eD : q_does mz W t 2 n = q_does2 mz W t n := rfl
    rw [eD] at ok' ⊢
    unfold x_takeStep2
    rw [g3, en]
    have hn := D4 (by omega)
    exact after_rx (get_rx (mm := mz) h hx hc ht (show n < 32 by omega)) ht ok'.1 (h21 (by omega)) e5
  | 3, _, _ =>
    have eD : q_does mz W t 3 n = q_writes mz W t n (W (376 + 103 * t + 1)) := rfl
    rw [eD] at ok' ⊢
    unfold x_takeStep3
    rw [g3, en]
    have hn := D4 (by omega)
    have g4 : m (b + 10 + 7 * t) 4 = W (376 + 103 * t + 1) := h.cellS ht4 (by omega) (cnd0 ht (by omega)) rfl
    rw [g4]
    exact after_rx ((writes_rx (mm := mz) h hx hc ht (show n < 32 by omega) (hs.nm (by omega))).d (writes_9 hx.W ht4)) ht ok'.1 (h21 (by omega)) e5
  | 4, _, _ =>
    have eD : q_does mz W t 4 n = (Int32.ofNat 1, upd W (376 + 103 * t + 1) (Int32.ofNat n), mz) := rfl
    rw [eD] at ok' ⊢
    unfold x_takeStep4
    rw [g3, en]
    exact after_rx (sum_rx (mm := mz) (x := Int32.ofNat n) h hx hc ht) ht ok'.1 (h21 (by omega)) e5
  | 5, _, _ =>
    have eD : q_does mz W t 5 n = (Int32.ofNat 1, upd W (376 + 103 * t + 1) ((W (376 + 103 * t + 1) + Int32.ofNat n) - (W (376 + 103 * t + 1) + Int32.ofNat n) / Int32.ofNat 10000 * Int32.ofNat 10000), mz) := rfl
    rw [eD] at ok' ⊢
    unfold x_takeStep5
    rw [g3, en]
    have g4 : m (b + 10 + 7 * t) 4 = W (376 + 103 * t + 1) := h.cellS ht4 (by omega) (cnd0 ht (by omega)) rfl
    rw [g4]
    exact after_rx (sum_rx (mm := mz) (x := (W (376 + 103 * t + 1) + Int32.ofNat n) - (W (376 + 103 * t + 1) + Int32.ofNat n) / Int32.ofNat 10000 * Int32.ofNat 10000) h hx hc ht) ht ok'.1 (h21 (by omega)) e5
  | 6, _, hKe =>
    have eD : q_does mz W t 6 n = ((q_works W t (Int32.ofNat n)).1, (q_works W t (Int32.ofNat n)).2, mz) := rfl
    rw [eD] at ok' ⊢
    unfold x_takeStep6
    rw [g3, en]
    exact work_rx (mm := mz) (n := Int32.ofNat n) h hx hc ht hA hKe e5
  | 7, _, _ =>
    have eD : q_does mz W t 7 n = q_putsOut mz W t := rfl
    rw [eD] at ok' ⊢
    unfold x_takeStep7
    exact after_rx (out_rx (mm := mz) h hx hc ht hA) ht ok'.1 (h21 (by omega)) e5
  | k + 8, hk8, _ => exact absurd hk8 (by omega)
