section ZPG
variable {T : Nat → Int32} {e p b t L : Nat} {m mm : Nat → Nat → Int32} {W : Nat → Int32}
theorem deed_24 : (q_readDeed mm W p t 24).2.2.2 = (q_letters mm p).2 := by
  unfold q_readDeed
  rw [show zc2 .ne (Int32.ofNat 24) (Int32.ofNat 24) = false from by decide, cnF]
  cases zc2 .eq (q_kindHere mm (q_letters mm p).1 (q_letters mm p).2) (-1) with
  | true => rw [cnT]
  | false => rw [cnF]
end ZPG
