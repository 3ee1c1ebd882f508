section ZMK
variable {m m' : Nat → Nat → Int32} {W W' : Nat → Int32}
theorem plain_q (h : WLT W) : QK m (q_plain m W) := by
  have d := dueBy_mr (m := zm2 m 137 0 (Int32.ofNat 0)) (b := 16) h.1 h.2
  have e := dueBy_ok (m := zm2 m 137 0 (Int32.ofNat 0)) (b := 16) h.1 h.2
  unfold q_plain
  generalize q_dueBy (zm2 m 137 0 (Int32.ofNat 0)) W 16 = c at d e ⊢
  exact QK.mk (h.of e) ((MR.rf m).p0.tr d)
end ZMK
