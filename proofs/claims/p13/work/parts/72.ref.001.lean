theorem zge_lt {a b : Nat} (ha : a < 2147483648) (hb : b < 2147483648) (h : zc2 .ge (Int32.ofNat a) (Int32.ofNat b) = false) : a < b := by
  apply Nat.lt_of_not_le
  intro q
  rw [zcge ha hb q] at h
  cases h
