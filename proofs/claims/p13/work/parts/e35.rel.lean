/-! the two logs: a ring, and rows that move -/
noncomputable def rowv (W : Nat → Int32) (t w v : Int32) (c : Nat) : Int32 := if c = 0 then W 11 else if c = 1 then t else if c = 2 then w else v
theorem c4 {P : Nat → Prop} (h0 : P 0) (h1 : P 1) (h2 : P 2) (h3 : P 3) {c : Nat} (hc : c < 4) : P c := lt4 h0 h1 h2 h3 hc
theorem logsT_row {W : Nat → Int32} {t w v : Int32} {c : Nat} (hC : nv W 15 < 60) (hc : c < 4) : q_logsT W t w v (136 + 4 * nv W 15 + c) = rowv W t w v c := by
  refine c4 (P := fun c => q_logsT W t w v (136 + 4 * nv W 15 + c) = rowv W t w v c) ?_ ?_ ?_ ?_ hc
  · unfold q_logsT
    rw [upd_ne _ _ (by omega), upd_ne _ _ (by omega), upd_ne _ _ (by omega), upd_ne _ _ (by omega)]
    exact upd_at _ _ _
  · unfold q_logsT
    rw [upd_ne _ _ (by omega), upd_ne _ _ (by omega), upd_ne _ _ (by omega)]
    exact upd_at _ _ _
  · unfold q_logsT
    rw [upd_ne _ _ (by omega), upd_ne _ _ (by omega)]
    exact upd_at _ _ _
  · unfold q_logsT
    rw [upd_ne _ _ (by omega)]
    exact upd_at _ _ _
theorem logsT_old {W : Nat → Int32} {t w v : Int32} {k : Nat} (h15 : k ≠ 15) (hk : k < 136 + 4 * nv W 15 ∨ 136 + 4 * nv W 15 + 4 ≤ k) : q_logsT W t w v k = W k := by
  unfold q_logsT
  simp (disch := omega) only [upd_ne]
theorem logsL_cell {t w v : Int32} : ∀ (n k : Nat) (W : Nat → Int32), k + n = 236 → W 15 = Int32.ofNat 60 → ∀ i, i < 240 → l_logsL t w v n k W (136 + i) = if i < k then W (136 + i) else if i < 236 then W (140 + i) else rowv W t w v (i - 236) := by
  intro n
  induction n with
  | zero =>
    intro k W hk hW i hi
    rw [l_logsL]
    have hn : nv (upd W 15 (W 15 - Int32.ofNat 1)) 15 = 59 := by
      unfold nv
      rw [upd_at, hW]
      decide
    have hk' : k = 236 := by omega
    subst hk'
    by_cases h1 : i < 236
    · rw [if_pos h1, logsT_old (by omega) (by rw [hn]; omega), upd_ne _ _ (by omega)]
    · rw [if_neg h1, if_neg h1]
      have e : 136 + i = 136 + 4 * nv (upd W 15 (W 15 - Int32.ofNat 1)) 15 + (i - 236) := by rw [hn]; omega
      rw [e, logsT_row (by rw [hn]; omega) (by omega)]
      unfold rowv
      rw [upd_ne _ _ (by omega)]
  | succ n ih =>
    intro k W hk hW i hi
    rw [l_logsL, ih _ _ (by omega) (by rw [upd_ne _ _ (by omega)]; exact hW) i hi]
    by_cases h1 : i < k
    · rw [if_pos (by omega), if_pos h1, upd_ne _ _ (by omega)]
    · rw [if_neg h1]
      by_cases h2 : i = k
      · subst h2
        rw [if_pos (by omega), if_pos (by omega), upd_at]
      · rw [if_neg (by omega)]
        by_cases h3 : i < 236
        · rw [if_pos h3, if_pos h3, upd_ne _ _ (by omega)]
        · rw [if_neg h3, if_neg h3]
          unfold rowv
          rw [upd_ne _ _ (by omega)]
/-- the reference's log behind one more row -/
theorem logs_cell {W : Nat → Int32} {t w v : Int32} (hC : WC W) : (nv W 15 < 60 → q_logs W t w v 15 = Int32.ofNat (nv W 15 + 1) ∧ ∀ r c, r < 60 → c < 4 → q_logs W t w v (136 + 4 * r + c) = if r = nv W 15 then rowv W t w v c else W (136 + 4 * r + c)) ∧ (nv W 15 = 60 → q_logs W t w v 15 = Int32.ofNat 60 ∧ ∀ r c, r < 60 → c < 4 → q_logs W t w v (136 + 4 * r + c) = if r = 59 then rowv W t w v c else W (136 + 4 * (r + 1) + c)) := by
  refine ⟨fun h => ?_, fun h => ?_⟩
  · have h1 : zc2 .ne (W 15) (Int32.ofNat 60) = true := by
      apply decide_eq_true
      intro e
      unfold nv at h
      rw [e] at h
      exact absurd h (by decide)
    have e0 : q_logs W t w v = q_logsT W t w v := by unfold q_logs; rw [h1, cond_true]
    rw [e0]
    refine ⟨by rw [logsT_15 h, Int32.ofNat_add, ← hC.1], fun r c hr hc => ?_⟩
    by_cases hn : r = nv W 15
    · rw [if_pos hn, hn]
      exact logsT_row h hc
    · rw [if_neg hn]
      exact logsT_old (by omega) (by omega)
  · have hW : W 15 = Int32.ofNat 60 := by rw [hC.1, h]
    have h1 : zc2 .ne (W 15) (Int32.ofNat 60) = false := by
      rw [hW]
      decide
    have e0 : q_logs W t w v = l_logsL t w v 236 0 W := by unfold q_logs; rw [h1, cond_false]
    rw [e0]
    refine ⟨logsL_15 _ _ _ rfl hW, fun r c hr hc => ?_⟩
    have e1 : 136 + 4 * r + c = 136 + (4 * r + c) := by omega
    rw [e1, logsL_cell 236 0 W rfl hW (4 * r + c) (by omega), if_neg (by omega)]
    by_cases hn : r = 59
    · rw [if_pos hn, if_neg (by omega)]
      have e2 : 4 * r + c - 236 = c := by omega
      rw [e2]
    · rw [if_neg hn, if_pos (by omega)]
      have e2 : 140 + (4 * r + c) = 136 + 4 * (r + 1) + c := by omega
      rw [e2]
