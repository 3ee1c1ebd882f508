section ZR0
variable {m : Nat → Nat → Int32} {W : Nat → Int32} {p b t : Nat} {c : Int32}
theorem readLock_10 (h : W 10 = c) : R10 c (q_readLock m W p) := by
  have a : ∀ (l w : Int32) (n : Nat) (is : Int32) (o : Nat), (l_readLock W l w n is o).2 10 = c := fun l w n is o => readLockL_10 h n is o
  unfold q_readLock
  repeat' (refine cndi (R10 c) ?_ ?_)
  all_goals first
    | exact R10.mk h
    | exact R10.mk (a _ _ _ _ _)
end ZR0
