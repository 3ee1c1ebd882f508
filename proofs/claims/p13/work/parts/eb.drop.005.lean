theorem isKept_9 {t l : Nat} (hl : l < 4) : ∀ (n k : Nat) (W : Nat → Int32), k + n = 32 → WC W → l_isKept t l n k W 9 = W 9 ∧ l_isKept t l n k W (376 + 103 * t + 21) = W (376 + 103 * t + 21) := by
  intro n
  induction n with
  | zero =>
    intro k W _ C
    rw [l_isKept]
    constructor
    · rw [logs_fr (WC_of (by simp (disch := omega) only [q_ends, upd_ne]) C) (by omega) (by omega)]
      simp (disch := omega) only [q_ends, upd_ne]
    · rw [logs_fr (WC_of (by simp (disch := omega) only [q_ends, upd_ne]) C) (by omega) (by omega)]
      simp (disch := omega) only [q_ends, upd_ne]
  | succ n ih =>
    intro k W hk C
    rw [l_isKept]
    cases zc1 .eq (q_holds (q_of W t 17) k) with
    | true => exact ih _ _ (by omega) C
    | false =>
      obtain ⟨a, c⟩ := ih (k + 1) (upd W (32 + k) (q_of W t (23 + k))) (by omega) (WC_of (upd_ne _ _ (by omega)) C)
      exact ⟨a.trans (upd_ne _ _ (by omega)), c.trans (upd_ne _ _ (by omega))⟩
