theorem zne1t {a : Nat} (h : a < 2147483648) : zc2 .ne (Int32.ofNat a) (-1) = true := by
  apply decide_eq_true
  intro e
  have h1 := congrArg Int32.toInt e
  rw [zoN h] at h1
  have h2 : (-1 : Int32).toInt = -1 := by decide
  omega
