section ZR2
variable {m : Nat → Nat → Int32} {W : Nat → Int32} {p b t : Nat} {c : Int32}
theorem readTrust_12 (h : W 12 = c) : R12 c (q_readTrust m W p) := by
  unfold q_readTrust
  exact R12.mk (readTrustL_12 _ _ _ h)
end ZR2
