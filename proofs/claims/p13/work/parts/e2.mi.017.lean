section ZR2
variable {m : Nat → Nat → Int32} {W : Nat → Int32} {p b t : Nat} {c : Int32}
theorem readText_12 (h : W 12 = c) : R12 c (q_readText m W p) := by
  unfold q_readText
  exact cndi (R12 c) (readTextL_12 _ _ _ _ _ h) (R12.mk h)
end ZR2
