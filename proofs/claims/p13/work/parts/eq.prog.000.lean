noncomputable def TLD (m : Nat → Nat → Int32) (W : Nat → Int32) (t L : Nat) : Prop := TLK m W ∧ W (376 + 103 * t + 22) = Int32.ofNat L ∧ W (376 + 103 * t + 21) = Int32.ofNat 0 ∧ t < nv W 9
noncomputable def dlo (K : Nat) : Nat := [0, 0, 0, 0, 0, 0, 1].getD K 0
noncomputable def dhi (K : Nat) : Nat := [3, 3, 31, 31, 999, 999, 9].getD K 0
theorem dhi_b : ∀ K, K < 7 → dhi K ≤ 999 ∧ (K ≤ 1 → dhi K ≤ 3) ∧ (K ≤ 3 → dhi K ≤ 31) ∧ dlo K ≤ 1 := by decide
