section ZPG
variable {T : Nat → Int32} {e p b t L : Nat} {m mm : Nat → Nat → Int32} {W : Nat → Int32}
theorem dd3_ndd {K n : Nat} : upd (dd3 W t L K) (376 + 103 * t + (55 + 2 * L) + 1) (Int32.ofNat n) = ndd W t L K n := by
  funext c
  by_cases c1 : c = 376 + 103 * t + (55 + 2 * L) + 1
  · rw [c1, upd_at]
    exact ndd_n.symm
  · rw [upd_ne _ _ c1]
    unfold dd3 ndd
    by_cases c2 : c = 376 + 103 * t + 22
    · rw [c2, upd_at, upd_at]
    · rw [upd_ne _ _ c2, upd_ne _ _ c2, upd_ne _ _ c1, upd_ne (k := 376 + 103 * t + (55 + 2 * L + 1)) _ _ (by omega)]
end ZPG
