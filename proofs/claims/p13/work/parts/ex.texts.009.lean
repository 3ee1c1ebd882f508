section ZR0
variable {m : Nat → Nat → Int32} {W : Nat → Int32} {p b t : Nat} {c : Int32}
theorem readThread_10 (h : W 10 = c) : R10 c (q_readThread m W p b) := by
  unfold q_readThread
  exact cndi (R10 c) (rclears_10 _ _ _ h) (R10.mk h)
end ZR0
