section ZR2
variable {m : Nat → Nat → Int32} {W : Nat → Int32} {p b t : Nat} {c : Int32}
theorem deeds_12 : ∀ (n L : Nat) (W : Nat → Int32) (p b : Nat), W 12 = c → R12 c (l_deeds m t n L W p b) := by
  intro n
  induction n with
  | zero => intro L W p b h; rw [l_deeds]; exact R12.m2 (readDeed_12 h)
  | succ n ih =>
    intro L W p b h
    have r : R12 c (q_readDeed m W p t L) := readDeed_12 h
    rw [l_deeds]
    generalize q_readDeed m W p t L = X at r ⊢
    exact cndi (R12 c) (cndi (R12 c) (ih _ _ _ _ r) (R12.m2 r)) (R12.m2 r)
end ZR2
