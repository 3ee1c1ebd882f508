section ZR2
variable {m : Nat → Nat → Int32} {W : Nat → Int32} {p b t : Nat} {c : Int32}
theorem readLockL_12 {l w : Int32} (h : W 12 = c) : ∀ (n : Nat) (is : Int32) (o : Nat), (l_readLock W l w n is o).2 12 = c := by
  intro n
  induction n with
  | zero => intro is o; rw [l_readLock]; exact cndi (fun q : Int32 × (Nat → Int32) => q.2 12 = c) h (u12 (by omega) h)
  | succ n ih => intro is o; rw [l_readLock]; exact cndi (fun q : Int32 × (Nat → Int32) => q.2 12 = c) h (cndi (fun q : Int32 × (Nat → Int32) => q.2 12 = c) (ih _ _) (cndi (fun q : Int32 × (Nat → Int32) => q.2 12 = c) (ih _ _) (ih _ _)))
end ZR2
