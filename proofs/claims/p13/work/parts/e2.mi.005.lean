section ZR2
variable {m : Nat → Nat → Int32} {W : Nat → Int32} {p b t : Nat} {c : Int32}
theorem readTo_12 {k : Nat} {lo hi : Int32} (hk : 12 ≠ k) (h : W 12 = c) : R12 c (q_readTo m W p k lo hi) := by
  unfold q_readTo
  exact cndi (R12 c) (R12.mk h) (R12.mk (u12 hk h))
end ZR2
