section ZR2
variable {m : Nat → Nat → Int32} {W : Nat → Int32} {p b t : Nat} {c : Int32}
theorem readThread_12 (h : W 12 = c) : R12 c (q_readThread m W p b) := by
  unfold q_readThread
  exact cndi (R12 c) (rclears_12 _ _ _ h) (R12.mk h)
end ZR2
