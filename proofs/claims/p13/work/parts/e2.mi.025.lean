section ZMK
variable {m m' : Nat → Nat → Int32} {W W' : Nat → Int32}
theorem quickest_q {x : Int32} (h : WLT W) : QK m (q_quickest m W x) := by
  unfold q_quickest
  exact cndi (QK m) (QK.tr (MR.rf m).p0 (quickL_mr _ _ _ _ _ _ h.1 h.2)) (thrQ h (MR.rf m).p0.thr)
end ZMK
