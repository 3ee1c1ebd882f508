/-! steps alike -/
theorem RC.deed {m : Nat → Nat → Int32} {b : Nat} {W : Nat → Int32} {t p : Nat} (h : RC m b W) (ht4 : t < 4) (ht : t < nv W 9) (hp : p < nv W (376 + 103 * t + 22)) (hp24 : p < 24) : m (b + 11 + 7 * t) p = W (376 + 103 * t + (55 + 2 * p)) ∧ m (b + 12 + 7 * t) p = W (376 + 103 * t + (55 + 2 * p + 1)) := by
  obtain ⟨e1, e2⟩ := cmT_d (t := t) hp24
  exact ⟨h.cellS (c := 55 + 2 * p) ht4 (by first | exact zq_adn (by decide) | exact zq_adr (zq_adn (by decide)) | omega) ⟨ht, fun q => by omega, fun q => by omega, fun q => by omega, fun _ => by omega⟩ e1, h.cellS (c := 55 + 2 * p + 1) ht4 (by first | exact zq_adn (by decide) | exact zq_adr (zq_adn (by decide)) | omega) ⟨ht, fun q => by omega, fun q => by omega, fun q => by omega, fun _ => by omega⟩ e2⟩
theorem work_rx {m mm : Nat → Nat → Int32} {b : Nat} {W : Nat → Int32} {t : Nat} {n : Int32} (h : RC m b W) (hx : WX W) (hc : CG m b) (ht : t < nv W 9) (hA : AL W t) (hk6 : nv W (376 + 103 * t + (55 + 2 * nv W (376 + 103 * t + 0))) = 6) (e5 : mm 137 5 = Int32.ofNat 0) : RZt b (x_stepE (x_goOnWorking m b t n).2 b t (x_goOnWorking m b t n).1) (bif zc1 .eq (q_works W t n).1 then ((q_stepsE mm (q_works W t n).2 t (q_works W t n).1).1, (q_stepsE mm (q_works W t n).2 t (q_works W t n).1).2, mm) else (q_stepsD mm (upd (q_works W t n).2 (376 + 103 * t + 0) ((q_works W t n).2 (376 + 103 * t + 0) + Int32.ofNat 1)) t (q_works W t n).1)) := by
  have h4 := hx.W.N4
  have ht4 : t < 4 := by omega
  have g7 : m (b + 10 + 7 * t) 7 = W (376 + 103 * t + 21) := h.cellS ht4 (by first | exact zq_adn (by decide) | exact zq_adr (zq_adn (by decide)) | omega) (cnd0 ht (by first | exact zq_adn (by decide) | exact zq_adr (zq_adn (by decide)) | omega)) rfl
  have q21 : q_of (upd W (376 + 103 * t + 21) (W (376 + 103 * t + 21) + Int32.ofNat 1)) t 21 = W (376 + 103 * t + 21) + Int32.ofNat 1 := upd_at _ _ _
  unfold x_goOnWorking q_works
  rw [zx_at, g7, q21]
  have w : ∀ x : Int32, WG (upd W (376 + 103 * t + 21) x) := fun x => hx.W.put _ (fre_at ht4 (by first | exact zq_adn (by decide) | exact zq_adr (zq_adn (by decide)) | omega) (by unfold cT; omega))
  have u : ∀ (x : Int32) j, j ≠ 376 + 103 * t + 21 → upd W (376 + 103 * t + 21) x j = W j := fun x j hj => upd_ne _ _ hj
  have X : ∀ x : Int32, WKt (upd W (376 + 103 * t + 21) x) t → WX (upd W (376 + 103 * t + 21) x) := by
    intro x hK
    obtain ⟨a1, a2, a3⟩ := hx.T ht4
    refine hx.one ht4 (w x) (fun k hk => u x k (by first | exact zq_adn (by decide) | exact zq_adr (zq_adn (by decide)) | omega)) (fun v hv hvt c hc => u x _ (by first | exact zq_adn (by decide) | exact zq_adr (zq_adn (by decide)) | omega)) ⟨?_, ?_, hK⟩
    · rw [u _ _ (by first | exact zq_adn (by decide) | exact zq_adr (zq_adn (by decide)) | omega), u _ _ (by first | exact zq_adn (by decide) | exact zq_adr (zq_adn (by decide)) | omega), u _ _ (by first | exact zq_adn (by decide) | exact zq_adr (zq_adn (by decide)) | omega), u _ _ (by first | exact zq_adn (by decide) | exact zq_adr (zq_adn (by decide)) | omega)]
      exact a1
    · rw [u _ _ (by first | exact zq_adn (by decide) | exact zq_adr (zq_adn (by decide)) | omega), nv_of (u _ _ (by first | exact zq_adn (by decide) | exact zq_adr (zq_adn (by decide)) | omega))]
      exact a2
  cases zc2 .ge (W (376 + 103 * t + 21) + Int32.ofNat 1) n with
  | true =>
    simp only [cnT]
    rw [zeq1', cond_false]
    have e2 : upd (upd W (376 + 103 * t + 21) (W (376 + 103 * t + 21) + Int32.ofNat 1)) (376 + 103 * t + 21) (Int32.ofNat 0) = upd W (376 + 103 * t + 21) (Int32.ofNat 0) := by
      funext j
      by_cases c : j = 376 + 103 * t + 21
      · rw [c, upd_at, upd_at]
      · rw [upd_ne _ _ c, upd_ne _ _ c, upd_ne _ _ c]
    have eS : ∀ v : Int32, x_stepE (zm2 m (b + 10 + 7 * t) 7 v) b t (Int32.ofNat 1) = x_stepE m b t (Int32.ofNat 1) := by
      intro v
      unfold x_stepE
      rw [moveOn_eq, moveOn_eq, adv_eq, show zc2 .ne (Int32.ofNat 1) (Int32.ofNat 1) = false from by decide, cond_false, cond_false]
    rw [e2, eS]
    refine moved_rx ?_ (X _ (Or.inl (upd_at _ _ _))) hc (by rw [nv_of (u _ 9 (by first | exact zq_adn (by decide) | exact zq_adr (zq_adn (by decide)) | omega))]; exact ht) (hA.of (u _ _ (by first | exact zq_adn (by decide) | exact zq_adr (zq_adn (by decide)) | omega)) (u _ _ (by first | exact zq_adn (by decide) | exact zq_adr (zq_adn (by decide)) | omega))) (upd_at _ _ _) e5
    exact h.thS (c := 21) (o := 10) (s := 7) hx.W.C ht4 (by first | exact zq_adn (by decide) | exact zq_adr (zq_adn (by decide)) | omega) (by first | exact zq_adn (by decide) | exact zq_adr (zq_adn (by decide)) | omega) rfl
  | false =>
    simp only [cnF]
    rw [zeq0, cond_true]
    have A2 : AL (upd W (376 + 103 * t + 21) (W (376 + 103 * t + 21) + Int32.ofNat 1)) t := hA.of (u _ _ (by first | exact zq_adn (by decide) | exact zq_adr (zq_adn (by decide)) | omega)) (u _ _ (by first | exact zq_adn (by decide) | exact zq_adr (zq_adn (by decide)) | omega))
    have h24 := (hx.W.2 t ht4).2.2.2.1.2.2
    have hA' : nv W (376 + 103 * t + 0) < nv W (376 + 103 * t + 22) := hA
    have x1 := X (W (376 + 103 * t + 21) + Int32.ofNat 1) (Or.inr ⟨A2, by
      rw [nv_of (u _ (376 + 103 * t + 0) (by first | exact zq_adn (by decide) | exact zq_adr (zq_adn (by decide)) | omega)), nv_of (u _ _ (by first | exact zq_adn (by decide) | exact zq_adr (zq_adn (by decide)) | omega))]
      exact hk6⟩)
    obtain ⟨k1, k2, k3⟩ := tick_rx (t := t) (h.thS (c := 21) (o := 10) (s := 7) (x := W (376 + 103 * t + 21) + Int32.ofNat 1) hx.W.C ht4 (by first | exact zq_adn (by decide) | exact zq_adr (zq_adn (by decide)) | omega) (by first | exact zq_adn (by decide) | exact zq_adr (zq_adn (by decide)) | omega) rfl) x1 (hc.put _ (ncS ht4))
    unfold x_stepE q_stepsE
    rw [show zc2 .ne (Int32.ofNat 0) (Int32.ofNat 1) = true from by decide, cond_true, e5, zeq0, cond_true, cond_true]
    exact ⟨rfl, k1, k2, k3⟩
theorem ok.nm {W : Nat → Int32} {k hi : Nat} (h : ok W k 0 hi) (hh : hi < 2147483648) : ¬ W k = -1 := by
  intro e
  have q := h.1
  rw [e] at q
  have z : (-1 : Int32).toInt = -1 := by decide
  have h2 := h.2.2
  rw [q, zoN (by first | exact zq_adn (by decide) | exact zq_adr (zq_adn (by decide)) | omega)] at z
  omega
theorem step_rx {m mm : Nat → Nat → Int32} {b : Nat} {W : Nat → Int32} {t : Nat} (h : RC m b W) (hx : WX W) (hc : CG m b) (ht : t < nv W 9) (hA : AL W t) (hs : ok W (376 + 103 * t + 1) 0 9999) : RZt b (x_takeStep m b t) (q_steps mm W t) := by
  have h4 := hx.W.N4
  have ht4 : t < 4 := by omega
  have hk : KG W t := ⟨hx.W, hA⟩
  obtain ⟨d24, dg⟩ := hk.deed ht4
  have hA' : nv W (376 + 103 * t + 0) < nv W (376 + 103 * t + 22) := hA
  have g3 : mv m (b + 10 + 7 * t) 3 = nv W (376 + 103 * t + 0) := by
    have q : m (b + 10 + 7 * t) 3 = W (376 + 103 * t + 0) := h.cellS ht4 (by first | exact zq_adn (by decide) | exact zq_adr (zq_adn (by decide)) | omega) (cnd0 ht (by first | exact zq_adn (by decide) | exact zq_adr (zq_adn (by decide)) | omega)) rfl
    unfold mv nv
    rw [q]
  obtain ⟨gk, gn⟩ := h.deed ht4 ht hA' d24
  have ek : mv m (b + 11 + 7 * t) (nv W (376 + 103 * t + 0)) = nv W (376 + 103 * t + (55 + 2 * nv W (376 + 103 * t + 0))) := by
    unfold mv
    rw [gk]
    rfl
  have en : mv m (b + 12 + 7 * t) (nv W (376 + 103 * t + 0)) = nv W (376 + 103 * t + (55 + 2 * nv W (376 + 103 * t + 0) + 1)) := by
    unfold mv
    rw [gn]
    rfl
  have e5 : zm2 mm 137 5 (Int32.ofNat 0) 137 5 = Int32.ofNat 0 := zx_at _ _ _ _
  obtain ⟨D1, D2, D3, D4⟩ := dg
  have hwk := hx.2.2.2 t ht4
  have ok' := does_ok (m := zm2 mm 137 5 (Int32.ofNat 0)) (n := nv W (376 + 103 * t + (55 + 2 * nv W (376 + 103 * t + 0) + 1))) hk ht4 (K := nv W (376 + 103 * t + (55 + 2 * nv W (376 + 103 * t + 0)))) (by have := D1.2.2; omega) D3 D4
  have hK7 := D1.2.2
  unfold WKt at hwk
  unfold x_takeStep q_steps
  generalize hKe : nv W (376 + 103 * t + (55 + 2 * nv W (376 + 103 * t + 0))) = K at ek ok' D3 D4 hK7 hwk ⊢
  rw [g3, ek]
  have h21 : K ≠ 6 → W (376 + 103 * t + 21) = Int32.ofNat 0 := by
    intro k6
    rcases hwk with e | ⟨_, e⟩
    · exact e
    · exact absurd e k6
  generalize nv W (376 + 103 * t + (55 + 2 * nv W (376 + 103 * t + 0) + 1)) = n at en ok' D3 D4 ⊢
  generalize zm2 mm 137 5 (Int32.ofNat 0) = mz at e5 ok' ⊢
  match K, hK7, hKe with
  | 0, _, _ =>
    have eD : q_does mz W t 0 n = q_takes mz W t n := rfl
    rw [eD] at ok' ⊢
    unfold x_takeStep0
    rw [g3, en, h.gs ht4 ht]
    have hn := D3 (by first | exact zq_adn (by decide) | exact zq_adr (zq_adn (by decide)) | omega)
    rcases hx.W.g01 ht4 with e | e
    · rw [e, zeq0, cond_true]
      exact after_rx (takeP_rx (mm := mz) h hx hc ht (show n < 4 by omega) hA e) ht ok'.1 (h21 (by first | exact zq_adn (by decide) | exact zq_adr (zq_adn (by decide)) | omega)) e5
    · rw [e, zeq1', cond_false]
      exact after_rx (takeG_rx (mm := mz) h hx hc ht (show n < 4 by omega) hA e) ht ok'.1 (h21 (by first | exact zq_adn (by decide) | exact zq_adr (zq_adn (by decide)) | omega)) e5
  | 1, _, _ =>
    have eD : q_does mz W t 1 n = q_drops mz W t n := rfl
    rw [eD] at ok' ⊢
    unfold x_takeStep1
    rw [g3, en]
    have hn := D3 (by first | exact zq_adn (by decide) | exact zq_adr (zq_adn (by decide)) | omega)
    exact after_rx (drop_rx (mm := mz) h hx hc ht (show n < 4 by omega) hA) ht ok'.1 (h21 (by first | exact zq_adn (by decide) | exact zq_adr (zq_adn (by decide)) | omega)) e5
  | 2, _, _ =>
    have eD : q_does mz W t 2 n = q_does2 mz W t n := rfl
    rw [eD] at ok' ⊢
    unfold x_takeStep2
    rw [g3, en]
    have hn := D4 (by first | exact zq_adn (by decide) | exact zq_adr (zq_adn (by decide)) | omega)
    exact after_rx (get_rx (mm := mz) h hx hc ht (show n < 32 by omega)) ht ok'.1 (h21 (by first | exact zq_adn (by decide) | exact zq_adr (zq_adn (by decide)) | omega)) e5
  | 3, _, _ =>
    have eD : q_does mz W t 3 n = q_writes mz W t n (W (376 + 103 * t + 1)) := rfl
    rw [eD] at ok' ⊢
    unfold x_takeStep3
    rw [g3, en]
    have hn := D4 (by first | exact zq_adn (by decide) | exact zq_adr (zq_adn (by decide)) | omega)
    have g4 : m (b + 10 + 7 * t) 4 = W (376 + 103 * t + 1) := h.cellS ht4 (by first | exact zq_adn (by decide) | exact zq_adr (zq_adn (by decide)) | omega) (cnd0 ht (by first | exact zq_adn (by decide) | exact zq_adr (zq_adn (by decide)) | omega)) rfl
    rw [g4]
    exact after_rx ((writes_rx (mm := mz) h hx hc ht (show n < 32 by omega) (hs.nm (by first | exact zq_adn (by decide) | exact zq_adr (zq_adn (by decide)) | omega))).d (writes_9 hx.W ht4)) ht ok'.1 (h21 (by first | exact zq_adn (by decide) | exact zq_adr (zq_adn (by decide)) | omega)) e5
  | 4, _, _ =>
    have eD : q_does mz W t 4 n = (Int32.ofNat 1, upd W (376 + 103 * t + 1) (Int32.ofNat n), mz) := rfl
    rw [eD] at ok' ⊢
    unfold x_takeStep4
    rw [g3, en]
    exact after_rx (sum_rx (mm := mz) (x := Int32.ofNat n) h hx hc ht) ht ok'.1 (h21 (by first | exact zq_adn (by decide) | exact zq_adr (zq_adn (by decide)) | omega)) e5
  | 5, _, _ =>
    have eD : q_does mz W t 5 n = (Int32.ofNat 1, upd W (376 + 103 * t + 1) ((W (376 + 103 * t + 1) + Int32.ofNat n) - (W (376 + 103 * t + 1) + Int32.ofNat n) / Int32.ofNat 10000 * Int32.ofNat 10000), mz) := rfl
    rw [eD] at ok' ⊢
    unfold x_takeStep5
    rw [g3, en]
    have g4 : m (b + 10 + 7 * t) 4 = W (376 + 103 * t + 1) := h.cellS ht4 (by first | exact zq_adn (by decide) | exact zq_adr (zq_adn (by decide)) | omega) (cnd0 ht (by first | exact zq_adn (by decide) | exact zq_adr (zq_adn (by decide)) | omega)) rfl
    rw [g4]
    exact after_rx (sum_rx (mm := mz) (x := (W (376 + 103 * t + 1) + Int32.ofNat n) - (W (376 + 103 * t + 1) + Int32.ofNat n) / Int32.ofNat 10000 * Int32.ofNat 10000) h hx hc ht) ht ok'.1 (h21 (by first | exact zq_adn (by decide) | exact zq_adr (zq_adn (by decide)) | omega)) e5
  | 6, _, hKe =>
    have eD : q_does mz W t 6 n = ((q_works W t (Int32.ofNat n)).1, (q_works W t (Int32.ofNat n)).2, mz) := rfl
    rw [eD] at ok' ⊢
    unfold x_takeStep6
    rw [g3, en]
    exact work_rx (mm := mz) (n := Int32.ofNat n) h hx hc ht hA hKe e5
  | 7, _, _ =>
    have eD : q_does mz W t 7 n = q_putsOut mz W t := rfl
    rw [eD] at ok' ⊢
    unfold x_takeStep7
    exact after_rx (out_rx (mm := mz) h hx hc ht hA) ht ok'.1 (h21 (by first | exact zq_adn (by decide) | exact zq_adr (zq_adn (by decide)) | omega)) e5
  | k + 8, hk8, _ => exact absurd hk8 (by first | exact zq_adn (by decide) | exact zq_adr (zq_adn (by decide)) | omega)
