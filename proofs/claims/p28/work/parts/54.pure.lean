/-! what stays as it was -/
def WC (W : Nat → Int32) : Prop := W 15 = Int32.ofNat (nv W 15) ∧ nv W 15 ≤ 60
def WL (W : Nat → Int32) : Prop := ∀ t, t < 4 → W (376 + 103 * t + 11) = Int32.ofNat (nv W (376 + 103 * t + 11)) ∧ nv W (376 + 103 * t + 11) < 4
theorem nv_of {W V : Nat → Int32} {k : Nat} (h : W k = V k) : nv W k = nv V k := by
  unfold nv
  rw [h]
theorem nv_on {n : Nat} (h : n < 2147483648) : (Int32.ofNat n).toNatClampNeg = n := Int32.toNatClampNeg_ofNat_of_lt h
theorem logsT_fr {W : Nat → Int32} {t w v : Int32} {k : Nat} (hC : nv W 15 < 60) (h15 : k ≠ 15) (hk : k < 136 ∨ 376 ≤ k) : q_logsT W t w v k = W k := by
  unfold q_logsT
  simp (disch := omega) only [upd_ne]
theorem logsT_15 {W : Nat → Int32} {t w v : Int32} (hC : nv W 15 < 60) : q_logsT W t w v 15 = W 15 + Int32.ofNat 1 := by
  unfold q_logsT
  rw [upd_at]
  simp (disch := omega) only [upd_ne]
theorem logsL_fr {t w v : Int32} {j : Nat} (h15 : j ≠ 15) (hj : j < 136 ∨ 376 ≤ j) : ∀ (n k : Nat) (W : Nat → Int32), k + n = 236 → W 15 = Int32.ofNat 60 → l_logsL t w v n k W j = W j := by
  intro n
  induction n with
  | zero =>
    intro k W hk hW
    rw [l_logsL, logsT_fr (zl60 hW).2 h15 hj, upd_ne _ _ h15]
  | succ n ih =>
    intro k W hk hW
    rw [l_logsL, ih _ _ (by omega) (by rw [upd_ne _ _ (by omega)]; exact hW), upd_ne _ _ (by omega)]
theorem logsL_15 {t w v : Int32} : ∀ (n k : Nat) (W : Nat → Int32), k + n = 236 → W 15 = Int32.ofNat 60 → l_logsL t w v n k W 15 = Int32.ofNat 60 := by
  intro n
  induction n with
  | zero =>
    intro k W hk hW
    rw [l_logsL, logsT_15 (zl60 hW).2, upd_at, hW]
    decide
  | succ n ih =>
    intro k W hk hW
    rw [l_logsL]
    exact ih _ _ (by omega) (by rw [upd_ne _ _ (by omega)]; exact hW)
theorem logs_fr {W : Nat → Int32} {t w v : Int32} {k : Nat} (hC : WC W) (h15 : k ≠ 15) (hk : k < 136 ∨ 376 ≤ k) : q_logs W t w v k = W k := by
  unfold q_logs
  cases h1 : zc2 .ne (W 15) (Int32.ofNat 60) with
  | true => rw [cond_true]; exact logsT_fr (znelt (by omega) hC.1 hC.2 h1) h15 hk
  | false => rw [cond_false]; exact logsL_fr h15 hk _ _ _ rfl (zeqn h1)
theorem logs_WC {W : Nat → Int32} {t w v : Int32} (hC : WC W) : WC (q_logs W t w v) := by
  unfold q_logs
  cases h1 : zc2 .ne (W 15) (Int32.ofNat 60) with
  | true =>
    rw [cond_true]
    have h2 := znelt (by omega) hC.1 hC.2 h1
    have h3 : q_logsT W t w v 15 = Int32.ofNat (nv W 15 + 1) := by rw [logsT_15 h2, Int32.ofNat_add, ← hC.1]
    unfold WC nv
    rw [h3, nv_on (by omega)]
    exact ⟨rfl, by omega⟩
  | false =>
    rw [cond_false]
    unfold WC nv
    rw [logsL_15 _ _ _ rfl (zeqn h1)]
    decide
theorem WC_of {W V : Nat → Int32} (h : V 15 = W 15) (hC : WC W) : WC V := by
  unfold WC nv at *
  rw [h]; exact hC
/-- the cells of its thread that a fall touches -/
def fT (c : Nat) : Prop := c < 4 ∨ (5 ≤ c ∧ c ≤ 10) ∨ (15 ≤ c ∧ c ≤ 17) ∨ c = 21
theorem falls_fr {W : Nat → Int32} {t y k : Nat} (ht : t < 4) (hy : y < 5) (hC : WC W) (hL4 : nv W (376 + 103 * t + 11) < 4) (h15 : k ≠ 15) (hk : k < 136 ∨ 376 ≤ k) (hl : k ≠ 20 + nv W (376 + 103 * t + 11)) (hT : ∀ c, k = 376 + 103 * t + c → ¬ fT c) : q_falls W t y k = W k := by
  have hx : ∀ c, fT c → k ≠ 376 + 103 * t + c := fun c hc e => hT c e hc
  have a0 := hx 0 (by unfold fT; omega)
  have a1 := hx 1 (by unfold fT; omega)
  have a2 := hx 2 (by unfold fT; omega)
  have a3 := hx 3 (by unfold fT; omega)
  have a5 := hx (5 + y) (by unfold fT; omega)
  have a10 := hx 10 (by unfold fT; omega)
  have a15 := hx 15 (by unfold fT; omega)
  have a16 := hx 16 (by unfold fT; omega)
  have a17 := hx 17 (by unfold fT; omega)
  have a21 := hx 21 (by unfold fT; omega)
  unfold q_falls
  rw [logs_fr (WC_of (by simp (disch := omega) only [q_ends, upd_ne]) hC) h15 hk]
  simp (disch := omega) only [q_ends, upd_ne]
theorem falls_WC {W : Nat → Int32} {t y : Nat} (ht : t < 4) (hy : y < 5) (hC : WC W) : WC (q_falls W t y) := by
  unfold q_falls
  exact logs_WC (WC_of (by simp (disch := omega) only [q_ends, upd_ne]) hC)
theorem falls_9 {W : Nat → Int32} {t y : Nat} (ht : t < 4) (hy : y < 5) (hC : WC W) (hL : WL W) : q_falls W t y 9 = W 9 :=
  falls_fr ht hy hC (hL t ht).2 (by omega) (by omega) (by omega) (fun c e => absurd e (by omega))
theorem falls_WL {W : Nat → Int32} {t y : Nat} (ht : t < 4) (hy : y < 5) (hC : WC W) (hL : WL W) : WL (q_falls W t y) := by
  intro u hu
  have h : q_falls W t y (376 + 103 * u + 11) = W (376 + 103 * u + 11) := by
    have := (hL t ht).2
    refine falls_fr ht hy hC this (by omega) (by omega) (by omega) (fun c e hc => ?_)
    unfold fT at hc
    omega
  unfold nv
  rw [h]
  exact hL u hu
