noncomputable def rowc (x t w v : Int32) (c : Nat) : Int32 := if c = 0 then x else if c = 1 then t else if c = 2 then w else v
/-- the class's ring behind one more row: the four cells, what is next -/
noncomputable def la4 (m : Nat → Nat → Int32) (b : Nat) (x t w v : Int32) : Nat → Nat → Int32 := zm2 (zm2 (zm2 (zm2 (zm2 m (b + 41) (mv m (b + 40) 2 * 4) x) (b + 41) (mv m (b + 40) 2 * 4 + 1) t) (b + 41) (mv m (b + 40) 2 * 4 + 2) w) (b + 41) (mv m (b + 40) 2 * 4 + 3) v) (b + 40) 2 (Int32.ofNat ((mv m (b + 40) 2 + 1) % 60))
theorem la_eq (m : Nat → Nat → Int32) (b : Nat) (x t w v : Int32) : x_logAdd m b x t w v = bif zc2 .ge (la4 m b x t w v (b + 40) 1) (Int32.ofNat 60) then la4 m b x t w v else zm2 (la4 m b x t w v) (b + 40) 1 (la4 m b x t w v (b + 40) 1 + Int32.ofNat 1) := rfl
theorem la4_1 {m : Nat → Nat → Int32} {b : Nat} {x t w v : Int32} : la4 m b x t w v (b + 40) 1 = m (b + 40) 1 := by
  unfold la4
  rw [zx_nk _ _ (by omega), zx_ne _ _ _ (by omega), zx_ne _ _ _ (by omega), zx_ne _ _ _ (by omega), zx_ne _ _ _ (by omega)]
theorem la4_2 {m : Nat → Nat → Int32} {b : Nat} {x t w v : Int32} : la4 m b x t w v (b + 40) 2 = Int32.ofNat ((mv m (b + 40) 2 + 1) % 60) := zx_at _ _ _ _
theorem la4_c {m : Nat → Nat → Int32} {b r c : Nat} {x t w v : Int32} (hc : c < 4) : la4 m b x t w v (b + 41) (4 * r + c) = if r = mv m (b + 40) 2 then rowc x t w v c else m (b + 41) (4 * r + c) := by
  unfold la4
  rw [zx_ne _ _ _ (by omega)]
  by_cases h : r = mv m (b + 40) 2
  · rw [if_pos h, h]
    refine c4 (P := fun c => zm2 (zm2 (zm2 (zm2 m (b + 41) (mv m (b + 40) 2 * 4) x) (b + 41) (mv m (b + 40) 2 * 4 + 1) t) (b + 41) (mv m (b + 40) 2 * 4 + 2) w) (b + 41) (mv m (b + 40) 2 * 4 + 3) v (b + 41) (4 * mv m (b + 40) 2 + c) = rowc x t w v c) ?_ ?_ ?_ ?_ hc
    · rw [zx_nk _ _ (by omega), zx_nk _ _ (by omega), zx_nk _ _ (by omega), show 4 * mv m (b + 40) 2 + 0 = mv m (b + 40) 2 * 4 by omega, zx_at]
      rfl
    · rw [zx_nk _ _ (by omega), zx_nk _ _ (by omega), show 4 * mv m (b + 40) 2 + 1 = mv m (b + 40) 2 * 4 + 1 by omega, zx_at]
      rfl
    · rw [zx_nk _ _ (by omega), show 4 * mv m (b + 40) 2 + 2 = mv m (b + 40) 2 * 4 + 2 by omega, zx_at]
      rfl
    · rw [show 4 * mv m (b + 40) 2 + 3 = mv m (b + 40) 2 * 4 + 3 by omega, zx_at]
      rfl
  · rw [if_neg h, zx_nk _ _ (by omega), zx_nk _ _ (by omega), zx_nk _ _ (by omega), zx_nk _ _ (by omega)]
/-- the two logs tell the same -/
noncomputable def RLg (m : Nat → Nat → Int32) (b : Nat) (W : Nat → Int32) : Prop := m (b + 40) 1 = W 15 ∧ ∀ a c, a < nv W 15 → c < 4 → m (b + 41) (4 * ((mv m (b + 40) 2 + 59 - a) % 60) + c) = W (136 + 4 * (nv W 15 - 1 - a) + c)
theorem RLg_add {m : Nat → Nat → Int32} {b : Nat} {W : Nat → Int32} {t w v : Int32} (hC : WC W) (hn : mv m (b + 40) 2 < 60) (h : RLg m b W) : RLg (x_logAdd m b (W 11) t w v) b (q_logs W t w v) := by
  have hrow : ∀ c, rowc (W 11) t w v c = rowv W t w v c := fun c => rfl
  have hnx : mv (la4 m b (W 11) t w v) (b + 40) 2 = (mv m (b + 40) 2 + 1) % 60 := by
    unfold mv
    rw [la4_2]
    exact nv_on (by have : ((m (b + 40) 2).toNatClampNeg + 1) % 60 < 60 := Nat.mod_lt _ (by omega); unfold mv; omega)
  rw [la_eq, la4_1, h.1]
  by_cases h60 : nv W 15 < 60
  · obtain ⟨s1, s2⟩ := (logs_cell (t := t) (w := w) (v := v) hC).1 h60
    have hb : zc2 .ge (W 15) (Int32.ofNat 60) = false := by rw [hC.1]; exact zcge_f (by omega) (by omega) h60
    rw [hb, cond_false]
    have hs : nv (q_logs W t w v) 15 = nv W 15 + 1 := by
      unfold nv at *
      rw [s1]
      exact nv_on (by omega)
    have hm2 : mv (zm2 (la4 m b (W 11) t w v) (b + 40) 1 (W 15 + Int32.ofNat 1)) (b + 40) 2 = (mv m (b + 40) 2 + 1) % 60 := by
      rw [← hnx]
      unfold mv
      rw [zx_nk _ _ (by omega)]
    refine ⟨by rw [zx_at, s1, Int32.ofNat_add, ← hC.1], fun a c ha hc => ?_⟩
    rw [hs] at ha
    rw [zx_ne _ _ _ (by omega), hm2, hs, la4_c hc, s2 _ c (by omega) hc]
    by_cases h0 : a = 0
    · subst h0
      rw [if_pos (by omega), if_pos (by omega)]
      exact hrow c
    · rw [if_neg (by omega), if_neg (by omega)]
      have e1 : ((mv m (b + 40) 2 + 1) % 60 + 59 - a) % 60 = (mv m (b + 40) 2 + 59 - (a - 1)) % 60 := by omega
      have e2 : nv W 15 + 1 - 1 - a = nv W 15 - 1 - (a - 1) := by omega
      rw [e1, e2]
      exact h.2 (a - 1) c (by omega) hc
  · have hs60 : nv W 15 = 60 := by have := hC.2; omega
    obtain ⟨s1, s2⟩ := (logs_cell (t := t) (w := w) (v := v) hC).2 hs60
    have hb : zc2 .ge (W 15) (Int32.ofNat 60) = true := by rw [hC.1]; exact zcge (by omega) (by omega) (by omega)
    rw [hb, cond_true]
    have hs : nv (q_logs W t w v) 15 = 60 := by
      unfold nv
      rw [s1]
      decide
    refine ⟨by rw [la4_1, h.1, s1, hC.1, hs60], fun a c ha hc => ?_⟩
    rw [hs] at ha
    rw [hnx, hs, la4_c hc, s2 _ c (by omega) hc]
    by_cases h0 : a = 0
    · subst h0
      rw [if_pos (by omega), if_pos (by omega)]
      exact hrow c
    · rw [if_neg (by omega), if_neg (by omega)]
      have e1 : ((mv m (b + 40) 2 + 1) % 60 + 59 - a) % 60 = (mv m (b + 40) 2 + 59 - (a - 1)) % 60 := by omega
      have e2 : 60 - 1 - a + 1 = nv W 15 - 1 - (a - 1) := by omega
      rw [e1, e2]
      exact h.2 (a - 1) c (by omega) hc
