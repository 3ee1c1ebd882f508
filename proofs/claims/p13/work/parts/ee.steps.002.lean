theorem ok.nm {W : Nat → Int32} {k hi : Nat} (h : ok W k 0 hi) (hh : hi < 2147483648) : ¬ W k = -1 := by
  intro e
  have q := h.1
  rw [e] at q
  have z : (-1 : Int32).toInt = -1 := by decide
  have h2 := h.2.2
  rw [q, zoN (by omega)] at z
  omega
