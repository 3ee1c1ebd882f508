noncomputable def bpn (W : Nat → Int32) (t p : Nat) : Nat := (q_behindPart W t p).toNatClampNeg
theorem bp_n {W : Nat → Int32} {t p : Nat} (h : WG W) (ht : t < 4) (hp : p < nv W (376 + 103 * t + 22)) : q_behindPart W t p = Int32.ofNat (bpn W t p) ∧ p < bpn W t p ∧ bpn W t p ≤ nv W (376 + 103 * t + 22) := by
  have h24 := (h.2 t ht).2.2.2.1.2.2
  obtain ⟨v, a, b, c⟩ := bpL (W := W) (t := t) (nv W (376 + 103 * t + 22) - 1 - p) (Int32.ofNat 0) p
  have e : q_behindPart W t p = Int32.ofNat v := c
  unfold bpn
  rw [e, nv_on (by omega)]
  exact ⟨rfl, a, by omega⟩
