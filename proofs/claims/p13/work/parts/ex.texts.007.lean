section ZR0
variable {m : Nat → Nat → Int32} {W : Nat → Int32} {p b t : Nat} {c : Int32}
theorem deeds_10 : ∀ (n L : Nat) (W : Nat → Int32) (p b : Nat), W 10 = c → R10 c (l_deeds m t n L W p b) := by
  intro n
  induction n with
  | zero => intro L W p b h; rw [l_deeds]; exact R10.m2 (readDeed_10 h)
  | succ n ih =>
    intro L W p b h
    have r : R10 c (q_readDeed m W p t L) := readDeed_10 h
    rw [l_deeds]
    generalize q_readDeed m W p t L = X at r ⊢
    exact cndi (R10 c) (cndi (R10 c) (ih _ _ _ _ r) (R10.m2 r)) (R10.m2 r)
end ZR0
