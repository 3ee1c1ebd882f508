theorem RC.cell {m : Nat → Nat → Int32} {b : Nat} {W : Nat → Int32} {t c : Nat} (h : RC m b W) (ht4 : t < 4) (hc : c < 103) (hcn : cndT W t c) : m (b + (cmT t c).1) (cmT t c).2 = W (376 + 103 * t + c) := by
  have e1 : (376 + 103 * t + c - 376) / 103 = t := by omega
  have e2 : (376 + 103 * t + c - 376) % 103 = c := by omega
  have h1 := h.2 (376 + 103 * t + c) ⟨by omega, by omega, Or.inr ⟨by omega, by rw [e1, e2]; exact hcn⟩⟩
  rw [cm_at ht4 hc] at h1
  exact h1
theorem RC.glob {m : Nat → Nat → Int32} {b : Nat} {W : Nat → Int32} {k : Nat} (h : RC m b W) (hk : k < 136) (h15 : k ≠ 15) : m (b + (cm k).1) (cm k).2 = W k := h.2 k ⟨by omega, h15, Or.inl hk⟩
/-- cells without a condition -/
theorem cnd0 {W : Nat → Int32} {t c : Nat} (ht : t < nv W 9) (hc : c < 11 ∨ (15 ≤ c ∧ c ≤ 17) ∨ c = 21 ∨ c = 22) : cndT W t c := ⟨ht, fun q => by omega, fun q => by omega, fun q => by omega, fun q => by omega⟩
theorem RC.ends {m : Nat → Nat → Int32} {b : Nat} {W : Nat → Int32} {t : Nat} (h : RC m b W) (hC : WC W) (ht : t < 4) : RC (x_close m b t) b (q_ends W t) := by
  have a1 := h.off (c := 2) hC ht (by omega)
  have c1 := WC_of (V := upd W (376 + 103 * t + 2) (Int32.ofNat 0)) (upd_ne _ _ (by omega)) hC
  have a2 := a1.off (c := 10) c1 ht (by omega)
  have c2 := WC_of (V := upd (upd W (376 + 103 * t + 2) (Int32.ofNat 0)) (376 + 103 * t + 10) (Int32.ofNat 0)) (upd_ne _ _ (by omega)) c1
  have a3 := a2.th (c := 15) (x := Int32.ofNat 0) c2 ht (by omega) (by omega)
  have c3 := WC_of (V := upd (upd (upd W (376 + 103 * t + 2) (Int32.ofNat 0)) (376 + 103 * t + 10) (Int32.ofNat 0)) (376 + 103 * t + 15) (Int32.ofNat 0)) (upd_ne _ _ (by omega)) c2
  have a4 := a3.th (c := 16) (x := Int32.ofNat 0) c3 ht (by omega) (by omega)
  have c4 := WC_of (V := upd (upd (upd (upd W (376 + 103 * t + 2) (Int32.ofNat 0)) (376 + 103 * t + 10) (Int32.ofNat 0)) (376 + 103 * t + 15) (Int32.ofNat 0)) (376 + 103 * t + 16) (Int32.ofNat 0)) (upd_ne _ _ (by omega)) c3
  have a5 := a4.off (c := 17) c4 ht (by omega)
  have e : x_close m b t = zm2 (zm2 (zm2 (zm2 (zm2 m (b + (cmT t 2).1) (cmT t 2).2 (Int32.ofNat 0)) (b + (cmT t 10).1) (cmT t 10).2 (Int32.ofNat 0)) (b + (cmT t 15).1) (cmT t 15).2 (Int32.ofNat 0)) (b + (cmT t 16).1) (cmT t 16).2 (Int32.ofNat 0)) (b + (cmT t 17).1) (cmT t 17).2 (Int32.ofNat 0) := by
    have e1 : b + (14 + 7 * t) = b + 14 + 7 * t := by omega
    rw [show cmT t 2 = (14 + 7 * t, 0) from rfl, show cmT t 10 = (14 + 7 * t, 5) from rfl, show cmT t 15 = (14 + 7 * t, 6) from rfl, show cmT t 16 = (14 + 7 * t, 7) from rfl, show cmT t 17 = (14 + 7 * t, 9) from rfl]
    dsimp only
    rw [e1]
    rfl
  rw [e]
  exact a5
/-- trust goes down alike -/
theorem lose_eq {a d : Nat} (ha : a ≤ 15) (hd : d ≤ 15) : (bif zc2 .le (Int32.ofNat a) (Int32.ofNat d) then Int32.ofNat 0 else Int32.ofNat a - Int32.ofNat d) = if Int32.ofNat 0 < Int32.ofNat a - Int32.ofNat d then Int32.ofNat a - Int32.ofNat d else Int32.ofNat 0 := by
  have h : ∀ a, a < 16 → ∀ d, d < 16 → (bif zc2 .le (Int32.ofNat a) (Int32.ofNat d) then Int32.ofNat 0 else Int32.ofNat a - Int32.ofNat d) = if Int32.ofNat 0 < Int32.ofNat a - Int32.ofNat d then Int32.ofNat a - Int32.ofNat d else Int32.ofNat 0 := by decide +kernel
  exact h a (by omega) d (by omega)
