theorem LT.put {W : Nat → Int32} (h : LT W) {k : Nat} (x : Int32) (hk : 12 ≠ k) : LT (upd W k x) := by
  unfold LT lt1 at *
  rw [upd_ne _ _ hk]; exact h
