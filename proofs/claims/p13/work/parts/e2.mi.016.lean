section ZR2
variable {m : Nat → Nat → Int32} {W : Nat → Int32} {p b t : Nat} {c : Int32}
theorem readTextL_12 : ∀ (n k : Nat) (W : Nat → Int32) (p b : Nat), W 12 = c → R12 c (l_readText m n k W p b) := by
  intro n
  induction n with
  | zero => intro k W p b h; rw [l_readText]; exact R12.mk h
  | succ n ih =>
    intro k W p b h
    have r : R12 c (q_readLine m W (q_letters m p).1 (q_letters m p).2) := readLine_12 h
    rw [l_readText]
    generalize q_readLine m W (q_letters m p).1 (q_letters m p).2 = X at r ⊢
    repeat' (refine cndi (R12 c) ?_ ?_)
    all_goals first
      | exact ih _ _ _ _ r
      | exact R12.m2 r
end ZR2
