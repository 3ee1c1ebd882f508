theorem block_eq {m : Nat → Nat → Int32} {b : Nat} {W : Nat → Int32} {w : Int32} (h : RC m b W) (hw : WG W) : x_blockBit m b w = q_blockOf W w := by
  have g : m (b + 3) 0 = W 0 := h.glob (k := 0) (by omega) (by omega)
  have hz := hw.1.1
  unfold x_blockBit q_blockOf
  rw [g, hz.1]
  have e : (if Int32.ofNat 1 < Int32.ofNat (nv W 0) then Int32.ofNat (nv W 0) else Int32.ofNat 1) = Int32.ofNat (nv W 0) := by
    have h1 := hz.2.1
    have h2 := hz.2.2
    generalize nv W 0 = n at h1 h2
    have key : ∀ n, n < 9 → 1 ≤ n → (if Int32.ofNat 1 < Int32.ofNat n then Int32.ofNat n else Int32.ofNat 1) = Int32.ofNat n := by decide +kernel
    exact key n (by omega) h1
  rw [e]
theorem GR.put {W : Nat → Int32} (h : GR W) {k : Nat} (x : Int32) (hk : ∀ t, t < 4 → k ≠ 376 + 103 * t + 2 ∧ k ≠ 376 + 103 * t + 15 ∧ k ≠ 376 + 103 * t + 16 ∧ k ≠ 376 + 103 * t + 17) : GR (upd W k x) := by
  intro t ht
  obtain ⟨a, b, c, d⟩ := hk t ht
  rw [upd_ne _ _ (fun e => a e.symm), upd_ne _ _ (fun e => b e.symm), upd_ne _ _ (fun e => c e.symm), upd_ne _ _ (fun e => d e.symm)]
  exact h t ht
theorem GR.of {W V : Nat → Int32} (h : GR W) (e : ∀ t, t < 4 → V (376 + 103 * t + 2) = W (376 + 103 * t + 2) ∧ V (376 + 103 * t + 15) = W (376 + 103 * t + 15) ∧ V (376 + 103 * t + 16) = W (376 + 103 * t + 16) ∧ V (376 + 103 * t + 17) = W (376 + 103 * t + 17)) : GR V := by
  intro t ht
  obtain ⟨a, b, c, d⟩ := e t ht
  rw [a, b, c, d]
  exact h t ht
theorem GR.logs {W : Nat → Int32} (h : GR W) (hC : WC W) (a c v : Int32) : GR (q_logs W a c v) := h.of (fun t ht => ⟨logs_fr hC (by omega) (by omega), logs_fr hC (by omega) (by omega), logs_fr hC (by omega) (by omega), logs_fr hC (by omega) (by omega)⟩)
theorem GR.ends {W : Nat → Int32} (h : GR W) {t : Nat} (ht : t < 4) : GR (q_ends W t) := by
  intro u hu
  by_cases hut : u = t
  · subst hut
    intro _
    unfold q_ends
    refine ⟨?_, ?_, ?_⟩
    · rw [upd_ne _ _ (by omega), upd_ne _ _ (by omega), upd_at]
    · rw [upd_ne _ _ (by omega), upd_at]
    · rw [upd_at]
  · have e : ∀ c, c < 103 → q_ends W t (376 + 103 * u + c) = W (376 + 103 * u + c) := by
      intro c hc
      unfold q_ends
      rw [upd_ne _ _ (by omega), upd_ne _ _ (by omega), upd_ne _ _ (by omega), upd_ne _ _ (by omega), upd_ne _ _ (by omega)]
    rw [e 2 (by omega), e 15 (by omega), e 16 (by omega), e 17 (by omega)]
    exact h u hu
theorem GR.falls {W : Nat → Int32} (h : GR W) (hw : WG W) {t y : Nat} (ht : t < 4) (hy : y < 5) : GR (q_falls W t y) := by
  have hl := (hw.L t ht).2
  unfold q_falls
  apply GR.logs _ (WC_of (by simp (disch := omega) only [q_ends, upd_ne]) hw.C)
  apply GR.ends _ ht
  apply GR.put _ _ (fun u hu => by omega)
  apply GR.put _ _ (fun u hu => by omega)
  apply GR.put _ _ (fun u hu => by omega)
  apply GR.put _ _ (fun u hu => by omega)
  apply GR.put _ _ (fun u hu => by omega)
  exact h.put _ (fun u hu => by omega)
