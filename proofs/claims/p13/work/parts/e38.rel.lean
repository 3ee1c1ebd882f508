theorem hbit0 : ∀ {k : Nat}, k < 32 → ¬ hbit (Int32.ofNat 0) k := by
  have h : ∀ k, k < 32 → ¬ q_holds (Int32.ofNat 0) k = Int32.ofNat 1 := by decide +kernel
  exact fun {k} hk => h k hk
theorem cm_no : (List.range 788).all (fun k => k == 15 || (Nat.ble 136 k && Nat.blt k 376) || ((cm k).1 != 40 && (cm k).1 != 41)) = true := by decide +kernel
theorem cm_ne {k : Nat} (h : k < 788) (h15 : k ≠ 15) (h2 : k < 136 ∨ 376 ≤ k) : (cm k).1 ≠ 40 ∧ (cm k).1 ≠ 41 := by
  have a := List.all_eq_true.mp cm_no k (List.mem_range.mpr h)
  have b1 : (k == 15) = false := by
    cases hb : (k == 15) with
    | false => rfl
    | true => exact absurd (eq_of_beq hb) h15
  have b2 : (Nat.ble 136 k && Nat.blt k 376) = false := by
    cases hb : (Nat.ble 136 k && Nat.blt k 376) with
    | false => rfl
    | true =>
      rw [Bool.and_eq_true] at hb
      have c1 := Nat.le_of_ble_eq_true hb.1
      have c2 : k < 376 := Nat.le_of_ble_eq_true hb.2
      omega
  rw [b1, b2, Bool.false_or, Bool.false_or, Bool.and_eq_true] at a
  exact ⟨fun e => by rw [e] at a; exact absurd a.1 (by decide), fun e => by rw [e] at a; exact absurd a.2 (by decide)⟩
theorem cnd_of {W V : Nat → Int32} {k : Nat} (e9 : V 9 = W 9) (e : ∀ t, t < 4 → V (376 + 103 * t + 2) = W (376 + 103 * t + 2) ∧ V (376 + 103 * t + 10) = W (376 + 103 * t + 10) ∧ V (376 + 103 * t + 17) = W (376 + 103 * t + 17) ∧ V (376 + 103 * t + 22) = W (376 + 103 * t + 22)) (h : cnd V k) : cnd W k := by
  obtain ⟨h1, h2, h3⟩ := h
  refine ⟨h1, h2, ?_⟩
  rcases h3 with h3 | ⟨h3, h4⟩
  · exact Or.inl h3
  · obtain ⟨a, b, c, d⟩ := e ((k - 376) / 103) (by omega)
    refine Or.inr ⟨h3, ?_⟩
    unfold cndT at *
    rw [nv_of e9, nv_of b, a, c, nv_of d] at h4
    exact h4
theorem RC.log {m : Nat → Nat → Int32} {b : Nat} {W : Nat → Int32} {t w v : Int32} (h : RC m b W) (hC : WC W) (hn : mv m (b + 40) 2 < 60) : RC (x_logAdd m b (W 11) t w v) b (q_logs W t w v) := by
  refine ⟨RLg_add hC hn h.1, fun k hk => ?_⟩
  have hk1 : cnd W k := cnd_of (logs_fr hC (by omega) (by omega)) (fun u hu => ⟨logs_fr hC (by omega) (by omega), logs_fr hC (by omega) (by omega), logs_fr hC (by omega) (by omega), logs_fr hC (by omega) (by omega)⟩) hk
  obtain ⟨a1, a2, a3⟩ := hk1
  have a4 : k < 136 ∨ 376 ≤ k := by
    rcases a3 with a3 | a3
    · exact Or.inl a3
    · exact Or.inr a3.1
  have hne := cm_ne a1 a2 a4
  rw [logAdd_ne (by omega) (by omega), logs_fr hC a2 a4]
  exact h.2 k ⟨a1, a2, a3⟩
/-- a cell of a thread that no condition looks at -/
theorem RC.th {m : Nat → Nat → Int32} {b : Nat} {W : Nat → Int32} {t c : Nat} {x : Int32} (h : RC m b W) (hC : WC W) (ht : t < 4) (hc : c < 103) (h2 : c ≠ 2 ∧ c ≠ 10 ∧ c ≠ 17 ∧ c ≠ 22) : RC (zm2 m (b + (cmT t c).1) (cmT t c).2 x) b (upd W (376 + 103 * t + c) x) := by
  have h3 := h.put (j := 376 + 103 * t + c) (x := x) (by omega) (by omega) (Or.inr (by omega)) hC (fun k hk _ => cnd_of (upd_ne _ _ (by omega)) (fun u hu => ⟨(upd_ne _ _ (by omega)), (upd_ne _ _ (by omega)), (upd_ne _ _ (by omega)), (upd_ne _ _ (by omega))⟩) hk) (cm_ne (by omega) (by omega) (Or.inr (by omega)))
  rw [cm_at ht hc] at h3
  exact h3
/-- the cells of an end of a guess: conditions go, nothing comes -/
theorem RC.off {m : Nat → Nat → Int32} {b : Nat} {W : Nat → Int32} {t c : Nat} (h : RC m b W) (hC : WC W) (ht : t < 4) (h2 : c = 2 ∨ c = 10 ∨ c = 17) : RC (zm2 m (b + (cmT t c).1) (cmT t c).2 (Int32.ofNat 0)) b (upd W (376 + 103 * t + c) (Int32.ofNat 0)) := by
  have h3 := h.put (j := 376 + 103 * t + c) (x := Int32.ofNat 0) (by omega) (by omega) (Or.inr (by omega)) hC (fun k hk _ => ?_) (cm_ne (by omega) (by omega) (Or.inr (by omega)))
  · rw [cm_at ht (by omega)] at h3
    exact h3
  · obtain ⟨a1, a2, a3⟩ := hk
    refine ⟨a1, a2, ?_⟩
    rcases a3 with a3 | ⟨a3, a4⟩
    · exact Or.inl a3
    · refine Or.inr ⟨a3, ?_⟩
      obtain ⟨d1, d2, d3, d4, d5⟩ := a4
      have e9 : nv (upd W (376 + 103 * t + c) (Int32.ofNat 0)) 9 = nv W 9 := nv_of (upd_ne _ _ (by omega))
      have e22 : nv (upd W (376 + 103 * t + c) (Int32.ofNat 0)) (376 + 103 * ((k - 376) / 103) + 22) = nv W (376 + 103 * ((k - 376) / 103) + 22) := nv_of (upd_ne _ _ (by omega))
      rw [e9] at d1
      rw [e22] at d5
      refine ⟨d1, fun q => ?_, fun q => ?_, fun q => ?_, d5⟩
      · have q1 := d2 q
        by_cases hq : 376 + 103 * ((k - 376) / 103) + 10 = 376 + 103 * t + c
        · rw [hq] at q1
          unfold nv at q1
          rw [upd_at] at q1
          exact absurd q1 (by intro z; exact absurd z (Nat.not_lt_zero _))
        · rw [nv_of (upd_ne _ _ hq)] at q1
          exact q1
      · have q1 := d3 q
        by_cases hq : 376 + 103 * ((k - 376) / 103) + 2 = 376 + 103 * t + c
        · rw [hq, upd_at] at q1
          exact absurd q1 (by decide)
        · rw [upd_ne _ _ hq] at q1
          exact q1
      · have q1 := d4 q
        by_cases hq : 376 + 103 * ((k - 376) / 103) + 17 = 376 + 103 * t + c
        · rw [hq, upd_at] at q1
          exact absurd q1 (hbit0 (by omega))
        · rw [upd_ne _ _ hq] at q1
          exact q1
