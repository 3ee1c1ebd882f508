/-! a step as a whole, alike -/
noncomputable def RZt (b : Nat) (p : QM) (q : QT) : Prop := p.1 = q.1 ∧ RC p.2 b q.2.1 ∧ WX q.2.1 ∧ CG p.2 b
theorem tick_rx {m : Nat → Nat → Int32} {b : Nat} {W : Nat → Int32} {t : Nat} (h : RC m b W) (hx : WX W) (hc : CG m b) : RC (zm2 (zm2 m b 7 (m b 7 + Int32.ofNat 1)) b 8 (Int32.ofNat t)) b (upd (upd W 12 (Int32.ofNat t)) 11 (upd W 12 (Int32.ofNat t) 11 + Int32.ofNat 1)) ∧ WX (upd (upd W 12 (Int32.ofNat t)) 11 (upd W 12 (Int32.ofNat t) 11 + Int32.ofNat 1)) ∧ CG (zm2 (zm2 m b 7 (m b 7 + Int32.ofNat 1)) b 8 (Int32.ofNat t)) b := by
  have g7 : m b 7 = W 11 := h.glob (k := 11) (by omega) (by omega)
  have s1 := h.globS (k := 11) (o := 0) (s := 7) (x := W 11 + Int32.ofNat 1) hx.W.C (by omega) (by omega) (by omega) rfl
  have C1 := WC_of (V := upd W 11 (W 11 + Int32.ofNat 1)) (upd_ne _ _ (by omega)) hx.W.C
  have s2 := s1.globS (k := 12) (o := 0) (s := 8) (x := Int32.ofNat t) C1 (by omega) (by omega) (by omega) rfl
  have eW : upd (upd W 12 (Int32.ofNat t)) 11 (upd W 12 (Int32.ofNat t) 11 + Int32.ofNat 1) = upd (upd W 11 (W 11 + Int32.ofNat 1)) 12 (Int32.ofNat t) := by
    rw [upd_ne (l := 11) _ _ (by omega)]
    funext j
    by_cases c1 : j = 11
    · rw [c1, upd_at, upd_ne _ _ (by omega), upd_at]
    · rw [upd_ne _ _ c1]
      by_cases c2 : j = 12
      · rw [c2, upd_at, upd_at]
      · rw [upd_ne _ _ c2, upd_ne _ _ c2, upd_ne _ _ c1]
  rw [eW, g7]
  rw [Nat.add_zero] at s2
  have x1 : WX (upd W 11 (W 11 + Int32.ofNat 1)) := hx.glob (by omega) (by omega) (by omega)
  exact ⟨s2, x1.glob (by omega) (by omega) (by omega), (hc.put _ (ncM (by omega) (by omega))).put _ (ncM (by omega) (by omega))⟩
noncomputable def x_adv (m : Nat → Nat → Int32) (b t : Nat) : Nat → Nat → Int32 := zm2 (zm2 m (b + 10 + 7 * t) 3 (m (b + 10 + 7 * t) 3 + Int32.ofNat 1)) (b + 10 + 7 * t) 7 (Int32.ofNat 0)
theorem moveOn_eq (m : Nat → Nat → Int32) (b t : Nat) : x_moveOn m b t = bif zc1 .ne (x_sDone (x_adv m b t) b t) then (bif zc1 .eq (x_adv m b t (b + 14 + 7 * t) 0) then (Int32.ofNat 1, x_logAdd (x_adv m b t) b (x_adv m b t b 7) (Int32.ofNat t) (Int32.ofNat 6) (Int32.ofNat 0)) else ((x_fall (x_adv m b t) b t 2).1, (x_fall (x_adv m b t) b t 2).2)) else (Int32.ofNat 1, x_adv m b t) := rfl
theorem adv_eq {m : Nat → Nat → Int32} {b t : Nat} {v : Int32} : x_adv (zm2 m (b + 10 + 7 * t) 7 v) b t = x_adv m b t := by
  unfold x_adv
  rw [zx_nk (k := 7) (l := 3) _ _ (by omega)]
  funext i k
  by_cases ca : i = b + 10 + 7 * t
  · subst ca
    by_cases c7 : k = 7
    · subst c7
      rw [zx_at, zx_at]
    · rw [zx_nk _ _ c7, zx_nk _ _ c7]
      by_cases c3 : k = 3
      · subst c3
        rw [zx_at, zx_at]
      · rw [zx_nk _ _ c3, zx_nk _ _ c3, zx_nk _ _ c7]
  · rw [zx_ne _ _ _ ca, zx_ne _ _ _ ca, zx_ne _ _ _ ca, zx_ne _ _ _ ca, zx_ne _ _ _ ca]
theorem adv_eq2 {m : Nat → Nat → Int32} {b t : Nat} : x_adv m b t = zm2 (zm2 m (b + 10 + 7 * t) 7 (Int32.ofNat 0)) (b + 10 + 7 * t) 3 (m (b + 10 + 7 * t) 3 + Int32.ofNat 1) := by
  unfold x_adv
  funext i k
  by_cases ca : i = b + 10 + 7 * t
  · subst ca
    by_cases c7 : k = 7
    · subst c7
      rw [zx_at, zx_nk _ _ (by omega), zx_at]
    · rw [zx_nk _ _ c7]
      by_cases c3 : k = 3
      · subst c3
        rw [zx_at, zx_at]
      · rw [zx_nk _ _ c3, zx_nk _ _ c3, zx_nk _ _ c7]
  · rw [zx_ne _ _ _ ca, zx_ne _ _ _ ca, zx_ne _ _ _ ca, zx_ne _ _ _ ca]
theorem lt_ne {a c : Nat} (ha : a ≤ c) (hc : c ≤ 24) : zc2 .lt (Int32.ofNat a) (Int32.ofNat c) = zc2 .ne (Int32.ofNat a) (Int32.ofNat c) := by
  have h : ∀ c, c < 25 → ∀ a, a < 25 → a ≤ c → zc2 .lt (Int32.ofNat a) (Int32.ofNat c) = zc2 .ne (Int32.ofNat a) (Int32.ofNat c) := by decide +kernel
  exact h c (by omega) a (by omega) ha
theorem sdone_eq {m : Nat → Nat → Int32} {b : Nat} {W : Nat → Int32} {t : Nat} (h : RC m b W) (hw : WG W) (ht : t < nv W 9) : x_sDone m b t = q_isDone W t := by
  have h4 := hw.N4
  have ht4 : t < 4 := by omega
  have g3 : m (b + 10 + 7 * t) 3 = W (376 + 103 * t + 0) := h.cellS ht4 (by omega) (cnd0 ht (by omega)) rfl
  have g2 : m (b + 10 + 7 * t) 2 = W (376 + 103 * t + 22) := h.cellS ht4 (by omega) (cnd0 ht (by omega)) rfl
  obtain ⟨-, -, -, a4, a5, -⟩ := hw.2 t ht4
  have q0 : q_of W t 0 = W (376 + 103 * t + 0) := rfl
  have q22 : q_of W t 22 = W (376 + 103 * t + 22) := rfl
  unfold x_sDone q_isDone
  rw [g3, g2, q0, q22, a5.1, a4.1, lt_ne a5.2.2 a4.2.2]
theorem moved_rx {m mm : Nat → Nat → Int32} {b : Nat} {V : Nat → Int32} {t : Nat} (h : RC (zm2 m (b + 10 + 7 * t) 7 (Int32.ofNat 0)) b V) (hx : WX V) (hc : CG m b) (ht : t < nv V 9) (hA : AL V t) (e21 : V (376 + 103 * t + 21) = Int32.ofNat 0) (e5 : mm 137 5 = Int32.ofNat 0) : RZt b (x_stepE m b t (Int32.ofNat 1)) (q_stepsD mm (upd V (376 + 103 * t + 0) (V (376 + 103 * t + 0) + Int32.ofNat 1)) t (Int32.ofNat 1)) := by
  have h4 := hx.W.N4
  have ht4 : t < 4 := by omega
  have g3 : m (b + 10 + 7 * t) 3 = V (376 + 103 * t + 0) := by
    have q : zm2 m (b + 10 + 7 * t) 7 (Int32.ofNat 0) (b + 10 + 7 * t) 3 = V (376 + 103 * t + 0) := h.cellS ht4 (by omega) (cnd0 ht (by omega)) rfl
    rw [zx_nk _ _ (by omega)] at q
    exact q
  have r1 : RC (x_adv m b t) b (upd V (376 + 103 * t + 0) (V (376 + 103 * t + 0) + Int32.ofNat 1)) := by
    rw [adv_eq2, g3]
    exact h.thS (c := 0) (o := 10) (s := 3) hx.W.C ht4 (by omega) (by omega) rfl
  have u : ∀ j, j ≠ 376 + 103 * t + 0 → upd V (376 + 103 * t + 0) (V (376 + 103 * t + 0) + Int32.ofNat 1) j = V j := fun j hj => upd_ne _ _ hj
  have x1 : WX (upd V (376 + 103 * t + 0) (V (376 + 103 * t + 0) + Int32.ofNat 1)) := by
    obtain ⟨a1, a2, a3⟩ := hx.T ht4
    refine hx.one ht4 (KG.adv ⟨hx.W, hA⟩ ht4) (fun k hk => u k (by omega)) (fun v hv hvt c hc => u _ (by omega)) ⟨?_, ?_, Or.inl ((u _ (by omega)).trans e21)⟩
    · rw [u _ (by omega), u _ (by omega), u _ (by omega), u _ (by omega)]
      exact a1
    · rw [u _ (by omega), nv_of (u _ (by omega))]
      exact a2
  have c1 : CG (x_adv m b t) b := (hc.put _ (ncS ht4)).put _ (ncS ht4)
  have n9 : nv (upd V (376 + 103 * t + 0) (V (376 + 103 * t + 0) + Int32.ofNat 1)) 9 = nv V 9 := nv_of (u 9 (by omega))
  unfold x_stepE
  rw [moveOn_eq, show zc2 .ne (Int32.ofNat 1) (Int32.ofNat 1) = false from by decide, cond_false]
  unfold q_stepsD
  generalize x_adv m b t = M at r1 c1 ⊢
  generalize upd V (376 + 103 * t + 0) (V (376 + 103 * t + 0) + Int32.ofNat 1) = V1 at r1 x1 n9 ⊢
  have ht1 : t < nv V1 9 := by omega
  rw [sdone_eq r1 x1.W ht1, r1.gs ht4 ht1, zne_n]
  cases zc1 .eq (q_isDone V1 t) with
  | true =>
    simp only [cnT, cnF, Bool.not_true]
    obtain ⟨k1, k2, k3⟩ := tick_rx (t := t) r1 x1 c1
    unfold q_stepsE
    rw [e5, zeq0, cond_true, zeq1', cond_false]
    exact ⟨rfl, k1, k2, k3⟩
  | false =>
    simp only [cnT, cnF, Bool.not_false]
    rcases x1.W.g01 ht4 with e | e
    · have q2 : zc2 .ne (q_of V1 t 2) (Int32.ofNat 1) = true := decide_eq_true (by show ¬ V1 (376 + 103 * t + 2) = Int32.ofNat 1; rw [e]; decide)
      have g11 : M b 7 = V1 11 := r1.glob (k := 11) (by omega) (by omega)
      rw [e, zeq0, cond_true, q2, cond_true, g11]
      obtain ⟨k1, k2, k3⟩ := tick_rx (t := t) (r1.log (t := Int32.ofNat t) (w := Int32.ofNat 6) (v := Int32.ofNat 0) x1.W.C c1.n60) (x1.logs _ _ _) (c1.logAdd _ _ _ _)
      unfold q_stepsE
      rw [e5, zeq0, cond_true, zeq1', cond_false]
      exact ⟨rfl, k1, k2, k3⟩
    · have q2 : zc2 .ne (q_of V1 t 2) (Int32.ofNat 1) = false := decide_eq_false (fun z => z e)
      rw [e, zeq1', cond_false, q2, cond_false]
      obtain ⟨k1, k2, k3⟩ := tick_rx (t := t) (r1.fall2 (y := 2) x1.1 c1 ht1 (by omega) e) (x1.falls ht4 (by omega)) (c1.fall ht4 (by omega))
      unfold q_stepsE q_itFalls
      dsimp only
      rw [zx_at, zeq1', cond_false]
      exact ⟨rfl, k1, k2, k3⟩
/-- what lies behind a deed -/
theorem after_rx {mm : Nat → Nat → Int32} {b : Nat} {W : Nat → Int32} {t : Nat} {P : QM} {Q : QT} (D : RD b t mm W P Q) (ht : t < nv W 9) (hk : KG Q.2.1 t) (h21 : W (376 + 103 * t + 21) = Int32.ofNat 0) (e5 : mm 137 5 = Int32.ofNat 0) : RZt b (x_stepE P.2 b t P.1) (bif zc1 .eq Q.1 then ((q_stepsE Q.2.2 Q.2.1 t Q.1).1, (q_stepsE Q.2.2 Q.2.1 t Q.1).2, Q.2.2) else (q_stepsD Q.2.2 (upd Q.2.1 (376 + 103 * t + 0) (Q.2.1 (376 + 103 * t + 0) + Int32.ofNat 1)) t Q.1)) := by
  obtain ⟨p0, m'⟩ := P
  obtain ⟨q0, V, mm'⟩ := Q
  obtain ⟨h', x', c', n9, d⟩ := D
  dsimp only at h' x' c' n9 d hk ⊢
  have h4 := x'.W.N4
  have ht4 : t < 4 := by omega
  rcases d with ⟨d1, d2, d3, d4⟩ | ⟨d1, d2, d3⟩ | ⟨d1, d2, d3⟩
  · rw [d1, d2, d3, zeq1', cond_false]
    have e21 : V (376 + 103 * t + 21) = Int32.ofNat 0 := by
      rcases d4 with d4 | d4
      · exact d4.trans h21
      · exact d4
    have r := h'.thS (c := 21) (o := 10) (s := 7) (x := V (376 + 103 * t + 21)) x'.W.C ht4 (by omega) (by omega) rfl
    rw [upd_self, e21] at r
    exact moved_rx r x' c' (by omega) hk.2 e21 e5
  · rw [d1, d2, d3, zeq0, cond_true]
    obtain ⟨k1, k2, k3⟩ := tick_rx (t := t) h' x' c'
    unfold x_stepE q_stepsE
    rw [show zc2 .ne (Int32.ofNat 0) (Int32.ofNat 1) = true from by decide, cond_true, e5, zeq0, cond_true, cond_true]
    exact ⟨rfl, k1, k2, k3⟩
  · rw [d1, d2, d3, zeq0, cond_true]
    obtain ⟨k1, k2, k3⟩ := tick_rx (t := t) h' x' c'
    unfold x_stepE q_stepsE
    rw [show zc2 .ne (-1 : Int32) (Int32.ofNat 1) = true from by decide, cond_true, zx_at, zeq1', cond_false]
    exact ⟨rfl, k1, k2, k3⟩
theorem cmT_d {t p : Nat} (hp : p < 24) : cmT t (55 + 2 * p) = (11 + 7 * t, p) ∧ cmT t (55 + 2 * p + 1) = (12 + 7 * t, p) := by
  constructor
  · unfold cmT
    rw [if_neg (by omega), if_neg (by omega), if_neg (by omega), if_neg (by omega), if_neg (by omega), if_neg (by omega), if_neg (by omega), if_neg (by omega), if_neg (by omega), if_neg (by omega), if_neg (by omega), if_neg (by omega), if_neg (by omega), if_neg (by omega), if_neg (by omega), if_pos (by omega), show (55 + 2 * p - 55) / 2 = p by omega]
  · unfold cmT
    rw [if_neg (by omega), if_neg (by omega), if_neg (by omega), if_neg (by omega), if_neg (by omega), if_neg (by omega), if_neg (by omega), if_neg (by omega), if_neg (by omega), if_neg (by omega), if_neg (by omega), if_neg (by omega), if_neg (by omega), if_neg (by omega), if_neg (by omega), if_neg (by omega), show (55 + 2 * p + 1 - 55) / 2 = p by omega]
