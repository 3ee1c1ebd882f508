section ZR0
variable {m : Nat → Nat → Int32} {W : Nat → Int32} {p b t : Nat} {c : Int32}
theorem readTextL_10 : ∀ (n k : Nat) (W : Nat → Int32) (p b : Nat), W 10 = c → R10 c (l_readText m n k W p b) := by
  intro n
  induction n with
  | zero => intro k W p b h; rw [l_readText]; exact R10.mk h
  | succ n ih =>
    intro k W p b h
    have r : R10 c (q_readLine m W (q_letters m p).1 (q_letters m p).2) := readLine_10 h
    rw [l_readText]
    generalize q_readLine m W (q_letters m p).1 (q_letters m p).2 = X at r ⊢
    repeat' (refine cndi (R10 c) ?_ ?_)
    all_goals first
      | exact ih _ _ _ _ r
      | exact R10.m2 r
end ZR0
