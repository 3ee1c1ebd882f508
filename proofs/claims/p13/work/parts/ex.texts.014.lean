section ZR0
variable {m : Nat → Nat → Int32} {W : Nat → Int32} {p b t : Nat} {c : Int32}
theorem readTrust_10 (h : W 10 = c) : R10 c (q_readTrust m W p) := by
  unfold q_readTrust
  exact R10.mk (readTrustL_10 _ _ _ h)
end ZR0
