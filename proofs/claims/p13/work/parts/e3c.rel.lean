/-! whom a read or a write clashes with: alike -/
noncomputable def GR (W : Nat → Int32) : Prop := ∀ t, t < 4 → W (376 + 103 * t + 2) = Int32.ofNat 0 → W (376 + 103 * t + 15) = Int32.ofNat 0 ∧ W (376 + 103 * t + 16) = Int32.ofNat 0 ∧ W (376 + 103 * t + 17) = Int32.ofNat 0
theorem orz (s : Int32) : s ||| Int32.ofNat 0 = s := Int32.or_zero
theorem clash_eq {m : Nat → Nat → Int32} {b : Nat} {W : Nat → Int32} {x u r : Int32} (h : RC m b W) (hw : WG W) (hG : GR W) : ∀ (n : Nat) (s : Int32) (k : Nat), k + n = nv W 9 → xl_holders m b x u r n s k = l_clash W u x r n s k := by
  intro n
  induction n with
  | zero => intro s k _; rfl
  | succ n ih =>
    intro s k hk
    have h4 := hw.N4
    have hk4 : k < 4 := by omega
    have hkN : k < nv W 9 := by omega
    have g0 : m (b + 14 + 7 * k) 0 = W (376 + 103 * k + 2) := h.cellS hk4 (by omega) (cnd0 hkN (by omega)) rfl
    have g6 : m (b + 14 + 7 * k) 6 = W (376 + 103 * k + 15) := h.cellS hk4 (by omega) (cnd0 hkN (by omega)) rfl
    have g7 : m (b + 14 + 7 * k) 7 = W (376 + 103 * k + 16) := h.cellS hk4 (by omega) (cnd0 hkN (by omega)) rfl
    have q16 : q_of W k 16 = W (376 + 103 * k + 16) := rfl
    have q15 : q_of W k 15 = W (376 + 103 * k + 15) := rfl
    rw [xl_holders, l_clash, g0, g6, g7, q16, q15, orz, orz, ih _ _ (by omega), ih _ _ (by omega)]
    have a1 := (hw.2 k hk4).1
    by_cases hz : nv W (376 + 103 * k + 2) = 0
    · have e2 : W (376 + 103 * k + 2) = Int32.ofNat 0 := by rw [a1.1, hz]
      obtain ⟨e15, e16, -⟩ := hG k hk4 e2
      have z1 : zc1 .eq (Int32.ofNat 0) = true := by decide
      have z2 : zc1 .eq (Int32.ofNat 0 &&& x) = true := by
        have : Int32.ofNat 0 &&& x = Int32.ofNat 0 := Int32.zero_and
        rw [this]; decide
      rw [e2, e15, e16, z1, cond_true, cond_true, orz, z2, cond_true]
    · have e1 : nv W (376 + 103 * k + 2) = 1 := by have := a1.2.2; omega
      have e2 : W (376 + 103 * k + 2) = Int32.ofNat 1 := by rw [a1.1, e1]
      have z1 : zc1 .eq (Int32.ofNat 1) = false := by decide
      rw [e2, z1, cond_false, cond_false, Int32.or_comm (W (376 + 103 * k + 15)) (W (376 + 103 * k + 16))]
theorem holders_eq {m : Nat → Nat → Int32} {b : Nat} {W : Nat → Int32} {x u r : Int32} (h : RC m b W) (hw : WG W) (hG : GR W) : x_holders m b x u r = q_clash W u x r := by
  have e5 : mv m b 5 = nv W 9 := by
    have q := h.glob (k := 9) (by omega) (by omega)
    unfold mv nv
    rw [← q]
    rfl
  unfold x_holders q_clash
  rw [e5]
  exact clash_eq h hw hG _ _ _ (by omega)
