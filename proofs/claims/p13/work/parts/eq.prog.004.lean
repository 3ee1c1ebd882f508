section ZPG
variable {T : Nat → Int32} {e p b t L : Nat} {m mm : Nat → Nat → Int32} {W : Nat → Int32}
theorem deed_K {K : Nat} (hk : q_kindHere mm (q_letters mm p).1 (q_letters mm p).2 = Int32.ofNat K) (hK : K < 7) (hL : L < 24) : q_readDeed mm W p t L = q_readTo mm (dd3 W t L K) (q_letters mm p).1 (376 + 103 * t + (55 + 2 * L) + 1) (Int32.ofNat (dlo K)) (Int32.ofNat (dhi K)) := by
  unfold q_readDeed
  rw [hk, zm_k K (by omega), cnF, tne_tt (by omega) (by omega) (show L ≠ 24 by omega), cnT, nv_on (by omega)]
  match K, hK with
  | 0, _ => rfl
  | 1, _ => rfl
  | 2, _ => rfl
  | 3, _ => rfl
  | 4, _ => rfl
  | 5, _ => rfl
  | 6, _ => rfl
end ZPG
