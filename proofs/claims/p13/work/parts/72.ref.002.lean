theorem bpL {W : Nat → Int32} {t : Nat} : ∀ (n : Nat) (h : Int32) (k : Nat), ∃ v, k < v ∧ v ≤ k + n + 1 ∧ l_behindPart W t n h k = Int32.ofNat v := by
  intro n
  induction n with
  | zero => intro h k; exact ⟨k + 1, by omega, by omega, rfl⟩
  | succ n ih =>
    intro h k
    rw [l_behindPart]
    cases zc1 .ne (q_heldBehind W t k h) with
    | true =>
      rw [cond_true]
      obtain ⟨v, a, b, c⟩ := ih (q_heldBehind W t k h) (k + 1)
      exact ⟨v, by omega, by omega, c⟩
    | false => exact ⟨k + 1, by omega, by omega, rfl⟩
