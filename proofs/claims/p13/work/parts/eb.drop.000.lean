theorem upd_self (W : Nat → Int32) (k : Nat) : upd W k (W k) = W := by
  funext j
  by_cases e : j = k
  · rw [e, upd_at]
  · rw [upd_ne _ _ e]
