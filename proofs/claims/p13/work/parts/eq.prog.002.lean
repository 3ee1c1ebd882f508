section ZPG
variable {T : Nat → Int32} {e p b t L : Nat} {m mm : Nat → Nat → Int32} {W : Nat → Int32}
noncomputable def dd3 (W : Nat → Int32) (t L K : Nat) : Nat → Int32 := upd (upd (upd W (376 + 103 * t + (55 + 2 * L)) (Int32.ofNat K)) (376 + 103 * t + (55 + 2 * L) + 1) (Int32.ofNat 0)) (376 + 103 * t + 22) (Int32.ofNat (L + 1))
theorem deed_0 (hk : q_kindHere mm (q_letters mm p).1 (q_letters mm p).2 = -1) : q_readDeed mm W p t L = (Int32.ofNat 0, W, (q_letters mm p).1, (q_letters mm p).2) := by
  unfold q_readDeed
  rw [hk, show zc2 .eq (-1 : Int32) (-1) = true from by decide, cnT]
end ZPG
