section ZR0
variable {m : Nat → Nat → Int32} {W : Nat → Int32} {p b t : Nat} {c : Int32}
theorem readDeed_10 {L : Nat} (h : W 10 = c) : R10 c (q_readDeed m W p t L) := by
  unfold q_readDeed
  repeat' (refine cndi (R10 c) ?_ ?_)
  all_goals first
    | (refine R10.mk ?_; (repeat' (first | refine u10 (by omega) ?_ | exact h)); done)
    | (repeat' (first | exact h | refine u10 (by omega) ?_))
end ZR0
