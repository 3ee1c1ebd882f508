theorem work_rx {m mm : Nat → Nat → Int32} {b : Nat} {W : Nat → Int32} {t : Nat} {n : Int32} (h : RC m b W) (hx : WX W) (hc : CG m b) (ht : t < nv W 9) (hA : AL W t) (hk6 : nv W (376 + 103 * t + (55 + 2 * nv W (376 + 103 * t + 0))) = 6) (e5 : mm 137 5 = Int32.ofNat 0) : RZt b (x_stepE (x_goOnWorking m b t n).2 b t (x_goOnWorking m b t n).1) (bif zc1 .eq (q_works W t n).1 then ((q_stepsE mm (q_works W t n).2 t (q_works W t n).1).1, (q_stepsE mm (q_works W t n).2 t (q_works W t n).1).2, mm) else (q_stepsD mm (upd (q_works W t n).2 (376 + 103 * t + 0) ((q_works W t n).2 (376 + 103 * t + 0) + Int32.ofNat 1)) t (q_works W t n).1)) := by
  have h4 := hx.W.N4
  have ht4 : t < 4 := by omega
  have g7 : m (b + 10 + 7 * t) 7 = W (376 + 103 * t + 21) := h.cellS ht4 (by omega) (cnd0 ht (by omega)) rfl
  have q21 : q_of (upd W (376 + 103 * t + 21) (W (376 + 103 * t + 21) + Int32.ofNat 1)) t 21 = W (376 + 103 * t + 21) + Int32.ofNat 1 := upd_at _ _ _
  unfold x_goOnWorking q_works
  rw [zx_at, g7, q21]
  have w : ∀ x : Int32, WG (upd W (376 + 103 * t + 21) x) := fun x => hx.W.put _ (fre_at ht4 (by omega) (by unfold cT; omega))
  have u : ∀ (x : Int32) j, j ≠ 376 + 103 * t + 21 → upd W (376 + 103 * t + 21) x j = W j := fun x j hj => upd_ne _ _ hj
  have X : ∀ x : Int32, WKt (upd W (376 + 103 * t + 21) x) t → WX (upd W (376 + 103 * t + 21) x) := by
    intro x hK
    obtain ⟨a1, a2, a3⟩ := hx.T ht4
    refine hx.one ht4 (w x) (fun k hk => u x k (by omega)) (fun v hv hvt c hc => u x _ (by omega)) ⟨?_, ?_, hK⟩
    · rw [u _ _ (by omega), u _ _ (by omega), u _ _ (by omega), u _ _ (by omega)]
      exact a1
    · rw [u _ _ (by omega), nv_of (u _ _ (by omega))]
      exact a2
  cases zc2 .ge (W (376 + 103 * t + 21) + Int32.ofNat 1) n with
  | true =>
    simp only [cnT]
    rw [zeq1', cond_false]
    have e2 : upd (upd W (376 + 103 * t + 21) (W (376 + 103 * t + 21) + Int32.ofNat 1)) (376 + 103 * t + 21) (Int32.ofNat 0) = upd W (376 + 103 * t + 21) (Int32.ofNat 0) := by
      funext j
      by_cases c : j = 376 + 103 * t + 21
      · rw [c, upd_at, upd_at]
      · rw [upd_ne _ _ c, upd_ne _ _ c, upd_ne _ _ c]
    have eS : ∀ v : Int32, x_stepE (zm2 m (b + 10 + 7 * t) 7 v) b t (Int32.ofNat 1) = x_stepE m b t (Int32.ofNat 1) := by
      intro v
      unfold x_stepE
      rw [moveOn_eq, moveOn_eq, adv_eq, show zc2 .ne (Int32.ofNat 1) (Int32.ofNat 1) = false from by decide, cond_false, cond_false]
    rw [e2, eS]
    refine moved_rx ?_ (X _ (Or.inl (upd_at _ _ _))) hc (by rw [nv_of (u _ 9 (by omega))]; exact ht) (hA.of (u _ _ (by omega)) (u _ _ (by omega))) (upd_at _ _ _) e5
    exact h.thS (c := 21) (o := 10) (s := 7) hx.W.C ht4 (by omega) (by omega) rfl
  | false =>
    simp only [cnF]
    rw [zeq0, cond_true]
    have A2 : AL (upd W (376 + 103 * t + 21) (W (376 + 103 * t + 21) + Int32.ofNat 1)) t := hA.of (u _ _ (by omega)) (u _ _ (by omega))
    have h24 := (hx.W.2 t ht4).2.2.2.1.2.2
    have hA' : nv W (376 + 103 * t + 0) < nv W (376 + 103 * t + 22) := hA
    have x1 := X (W (376 + 103 * t + 21) + Int32.ofNat 1) (Or.inr ⟨A2, by
      rw [nv_of (u _ (376 + 103 * t + 0) (by omega)), nv_of (u _ _ (by omega))]
      exact hk6⟩)
    obtain ⟨k1, k2, k3⟩ := tick_rx (t := t) (h.thS (c := 21) (o := 10) (s := 7) (x := W (376 + 103 * t + 21) + Int32.ofNat 1) hx.W.C ht4 (by omega) (by omega) rfl) x1 (hc.put _ (ncS ht4))
    unfold x_stepE q_stepsE
    rw [show zc2 .ne (Int32.ofNat 0) (Int32.ofNat 1) = true from by decide, cond_true, e5, zeq0, cond_true, cond_true]
    exact ⟨rfl, k1, k2, k3⟩
