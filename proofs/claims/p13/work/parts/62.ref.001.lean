theorem does_ok {W : Nat → Int32} {m : Nat → Nat → Int32} {t K n : Nat} (h : KG W t) (ht : t < 4) (hK : K < 8) (hn1 : K ≤ 1 → n ≤ 3) (hn3 : K ≤ 3 → n ≤ 31) : KB t (q_does m W t K n) := by
  match K, hK, hn1, hn3 with
  | 0, _, hn1, hn3 => exact takes_ok h ht (Nat.lt_succ_of_le (hn1 (by omega)))
  | 1, _, hn1, hn3 => exact drops_ok h ht (Nat.lt_succ_of_le (hn1 (by omega)))
  | 2, _, hn1, hn3 =>
    show KB t (q_does2 m W t n)
    unfold q_does2
    have ar := h.reads (m := m) ht (Int32.ofNat n)
    generalize q_reads m W t (Int32.ofNat n) = cr at ar ⊢
    exact cndi (KB t) ⟨ar.put ht _ (fre_at ht (by omega) (by unfold cT; omega)), b01_1⟩ ⟨ar, b01_0⟩
  | 3, _, hn1, hn3 => exact ⟨h.writes ht (Nat.lt_succ_of_le (hn3 (by omega))) _, writes_01⟩
  | 4, _, _, _ => exact ⟨h.put ht _ (fre_at ht (by omega) (by unfold cT; omega)), b01_1⟩
  | 5, _, _, _ => exact ⟨h.put ht _ (fre_at ht (by omega) (by unfold cT; omega)), b01_1⟩
  | 6, _, _, _ => exact works_ok h ht
  | 7, _, _, _ => exact putsOut_ok h ht
