theorem isKept_congr {t l : Nat} (hl : l < 4) : ∀ (n k : Nat) (V Z : Nat → Int32), k + n = 32 → (∀ j, j ≠ 376 + 103 * t + 10 → V j = Z j) → l_isKept t l n k V = l_isKept t l n k Z := by
  intro n
  induction n with
  | zero =>
    intro k V Z hk e
    rw [l_isKept, l_isKept]
    refine congrArg (fun X => q_logs X (Int32.ofNat t) (Int32.ofNat 1) (Int32.ofNat l)) (ends_congr (fun j hj => ?_))
    have e5 := e 5 (by omega)
    have e20 := e (20 + l) (by omega)
    have e28 := e (28 + l) (by omega)
    have e4 := e (376 + 103 * t + 4) (by omega)
    rw [e5, e20]
    simp (disch := omega) only [upd_ne]
    rw [e28, e4]
    by_cases c1 : j = 376 + 103 * t + 4
    · rw [c1, upd_at, upd_at]
    · rw [upd_ne _ _ c1, upd_ne _ _ c1]
      by_cases c2 : j = 376 + 103 * t + 3
      · rw [c2, upd_at, upd_at]
      · rw [upd_ne _ _ c2, upd_ne _ _ c2]
        by_cases c3 : j = 28 + l
        · rw [c3, upd_at, upd_at]
        · rw [upd_ne _ _ c3, upd_ne _ _ c3]
          by_cases c4 : j = 20 + l
          · rw [c4, upd_at, upd_at]
          · rw [upd_ne _ _ c4, upd_ne _ _ c4]
            exact e j hj
  | succ n ih =>
    intro k V Z hk e
    rw [l_isKept, l_isKept]
    have e17 : q_of V t 17 = q_of Z t 17 := e _ (by omega)
    have ev : q_of V t (23 + k) = q_of Z t (23 + k) := e _ (by omega)
    rw [e17, ev, ih (k + 1) V Z (by omega) e, ih (k + 1) (upd V (32 + k) (q_of Z t (23 + k))) (upd Z (32 + k) (q_of Z t (23 + k))) (by omega) (fun j hj => by
      by_cases c : j = 32 + k
      · rw [c, upd_at, upd_at]
      · rw [upd_ne _ _ c, upd_ne _ _ c]
        exact e j hj)]
