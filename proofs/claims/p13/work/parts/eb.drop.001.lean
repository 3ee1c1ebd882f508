theorem ends_congr {V Z : Nat → Int32} {t : Nat} (e : ∀ j, j ≠ 376 + 103 * t + 10 → V j = Z j) : q_ends V t = q_ends Z t := by
  funext j
  unfold q_ends
  by_cases c1 : j = 376 + 103 * t + 17
  · rw [c1, upd_at, upd_at]
  · rw [upd_ne _ _ c1, upd_ne _ _ c1]
    by_cases c2 : j = 376 + 103 * t + 16
    · rw [c2, upd_at, upd_at]
    · rw [upd_ne _ _ c2, upd_ne _ _ c2]
      by_cases c3 : j = 376 + 103 * t + 15
      · rw [c3, upd_at, upd_at]
      · rw [upd_ne _ _ c3, upd_ne _ _ c3]
        by_cases c4 : j = 376 + 103 * t + 10
        · rw [c4, upd_at, upd_at]
        · rw [upd_ne _ _ c4, upd_ne _ _ c4]
          by_cases c5 : j = 376 + 103 * t + 2
          · rw [c5, upd_at, upd_at]
          · rw [upd_ne _ _ c5, upd_ne _ _ c5]
            exact e j c4
