section ZR0
variable {m : Nat → Nat → Int32} {W : Nat → Int32} {p b t : Nat} {c : Int32}
theorem readText_10 (h : W 10 = c) : R10 c (q_readText m W p) := by
  unfold q_readText
  exact cndi (R10 c) (readTextL_10 _ _ _ _ _ h) (R10.mk h)
end ZR0
