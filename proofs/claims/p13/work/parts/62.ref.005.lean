theorem KG.adv {W : Nat → Int32} {t : Nat} (h : KG W t) (ht : t < 4) : WG (upd W (376 + 103 * t + 0) (W (376 + 103 * t + 0) + Int32.ofNat 1)) := by
  have e : W (376 + 103 * t + 0) + Int32.ofNat 1 = Int32.ofNat (nv W (376 + 103 * t + 0) + 1) := by
    rw [Int32.ofNat_add, ← (h.1.2 t ht).2.2.2.2.1.1]
  rw [e]
  exact h.1.at0 ht h.2
