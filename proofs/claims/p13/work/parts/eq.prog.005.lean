section ZPG
variable {T : Nat → Int32} {e p b t L : Nat} {m mm : Nat → Nat → Int32} {W : Nat → Int32}
theorem deed_7 (hk : q_kindHere mm (q_letters mm p).1 (q_letters mm p).2 = Int32.ofNat 7) (hL : L < 24) : q_readDeed mm W p t L = (Int32.ofNat 1, dd3 W t L 7, (q_letters mm p).1, (q_letters mm p).2) := by
  unfold q_readDeed
  rw [hk, zm_k 7 (by omega), cnF, tne_tt (by omega) (by omega) (show L ≠ 24 by omega), cnT, nv_on (by omega)]
  rfl
end ZPG
