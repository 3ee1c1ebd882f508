section ZR2
variable {m : Nat → Nat → Int32} {W : Nat → Int32} {p b t : Nat} {c : Int32}
theorem readDeed_12 {L : Nat} (h : W 12 = c) : R12 c (q_readDeed m W p t L) := by
  unfold q_readDeed
  repeat' (refine cndi (R12 c) ?_ ?_)
  all_goals first
    | (refine R12.mk ?_; (repeat' (first | refine u12 (by omega) ?_ | exact h)); done)
    | (repeat' (first | exact h | refine u12 (by omega) ?_))
end ZR2
