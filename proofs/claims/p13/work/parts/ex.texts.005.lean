section ZR0
variable {m : Nat → Nat → Int32} {W : Nat → Int32} {p b t : Nat} {c : Int32}
theorem readTo_10 {k : Nat} {lo hi : Int32} (hk : 10 ≠ k) (h : W 10 = c) : R10 c (q_readTo m W p k lo hi) := by
  unfold q_readTo
  exact cndi (R10 c) (R10.mk h) (R10.mk (u10 hk h))
end ZR0
