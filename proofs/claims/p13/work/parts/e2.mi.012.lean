section ZR2
variable {m : Nat → Nat → Int32} {W : Nat → Int32} {p b t : Nat} {c : Int32}
theorem readLock_12 (h : W 12 = c) : R12 c (q_readLock m W p) := by
  have a : ∀ (l w : Int32) (n : Nat) (is : Int32) (o : Nat), (l_readLock W l w n is o).2 12 = c := fun l w n is o => readLockL_12 h n is o
  unfold q_readLock
  repeat' (refine cndi (R12 c) ?_ ?_)
  all_goals first
    | exact R12.mk h
    | exact R12.mk (a _ _ _ _ _)
end ZR2
