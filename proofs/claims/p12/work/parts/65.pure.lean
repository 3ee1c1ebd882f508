/-! who is done, whose turn it is -/
noncomputable def dn (W : Nat → Int32) (u : Nat) : Bool := !(zc2 .ne (q_of W u 0) (q_of W u 22))
theorem isDone_dn (W : Nat → Int32) (u : Nat) : q_isDone W u = bif dn W u then Int32.ofNat 1 else Int32.ofNat 0 := by
  unfold q_isDone dn
  cases zc2 .ne (q_of W u 0) (q_of W u 22) <;> rfl
/-- how many are not done, from k on -/
noncomputable def ndc (W : Nat → Int32) : Nat → Nat → Nat
  | 0, _ => 0
  | n + 1, k => (bif dn W k then 0 else 1) + ndc W n (k + 1)
theorem done_fin {W : Nat → Int32} (hN : W 9 = Int32.ofNat (nv W 9)) (hN4 : nv W 9 ≤ 4) : q_bits (q_doneOnes W) = Int32.ofNat (nv W 9 - ndc W (nv W 9) 0) ∧ q_areAllDone W = bif Nat.beq (ndc W (nv W 9) 0) 0 then Int32.ofNat 1 else Int32.ofNat 0 := by
  have h9 : q_threads W = Int32.ofNat (nv W 9) := hN
  unfold q_areAllDone q_doneOnes
  rw [h9]
  generalize nv W 9 = N at hN4 ⊢
  match N, hN4 with
  | 0, _ =>
    simp only [l_doneOnes, ndc]
    decide +kernel
  | 1, _ =>
    simp only [l_doneOnes, ndc, isDone_dn]
    generalize dn W 0 = f0
    revert f0
    decide +kernel
  | 2, _ =>
    simp only [l_doneOnes, ndc, isDone_dn]
    generalize dn W 0 = f0
    generalize dn W (0 + 1) = f1
    revert f0 f1
    decide +kernel
  | 3, _ =>
    simp only [l_doneOnes, ndc, isDone_dn]
    generalize dn W 0 = f0
    generalize dn W (0 + 1) = f1
    generalize dn W (0 + 1 + 1) = f2
    revert f0 f1 f2
    decide +kernel
  | 4, _ =>
    simp only [l_doneOnes, ndc, isDone_dn]
    generalize dn W 0 = f0
    generalize dn W (0 + 1) = f1
    generalize dn W (0 + 1 + 1) = f2
    generalize dn W (0 + 1 + 1 + 1) = f3
    revert f0 f1 f2 f3
    decide +kernel
theorem ndc_le (W : Nat → Int32) : ∀ n k, ndc W n k ≤ n := by
  intro n
  induction n with
  | zero => intro k; exact Nat.le_refl _
  | succ n ih =>
    intro k
    rw [ndc]
    have := ih (k + 1)
    cases dn W k <;> simp only [cond_true, cond_false] <;> omega
theorem ndc_ex (W : Nat → Int32) : ∀ n k, ¬ ndc W n k = 0 → ∃ u, k ≤ u ∧ u < k + n ∧ dn W u = false := by
  intro n
  induction n with
  | zero => intro k h; exact absurd rfl h
  | succ n ih =>
    intro k h
    cases hd : dn W k with
    | false => exact ⟨k, Nat.le_refl _, by omega, hd⟩
    | true =>
      rw [ndc, hd, cond_true, Nat.zero_add] at h
      obtain ⟨u, h1, h2, h3⟩ := ih _ h
      exact ⟨u, by omega, by omega, h3⟩
theorem dn_AL {W : Nat → Int32} (h : WG W) {u : Nat} (hu : u < 4) (hd : dn W u = false) : AL W u := by
  obtain ⟨-, -, -, a4, a5, -, -, -⟩ := h.2 u hu
  unfold dn at hd
  have h1 : ¬ W (376 + 103 * u + 0) = W (376 + 103 * u + 22) := by
    cases hb : zc2 .ne (q_of W u 0) (q_of W u 22) with
    | false => rw [hb] at hd; cases hd
    | true => exact of_decide_eq_true hb
  unfold AL
  apply Nat.lt_of_le_of_ne a5.2.2
  intro e
  exact h1 (by rw [a5.1, a4.1, e])
theorem nx_cov : ∀ N, N ≤ 4 → ∀ L, L ≤ 4 → ∀ u, u < N → ∃ k, k ≤ 4 ∧ (1 ≤ k ∧ k ≤ N ∧ (L + (k - 1)) % N = u) := by decide +kernel
theorem nextL {W : Nat → Int32} {N : Nat} (hN : nv W 9 = N) (hN4 : N ≤ 4) : ∀ n k, 1 ≤ k → k + n = N + 1 → (∃ q, k ≤ q ∧ q ≤ N ∧ dn W ((lt1 W + (q - 1)) % N) = false) → ∃ v, v < N ∧ dn W v = false ∧ l_nextOne W n k = Int32.ofNat v := by
  intro n
  induction n with
  | zero => intro k h1 hk ⟨q, a, b, _⟩; omega
  | succ n ih =>
    intro k h1 hk ⟨q, a, b, c⟩
    rw [l_nextOne, isDone_dn, hN]
    cases hd : dn W ((lt1 W + (k - 1)) % N) with
    | false => exact ⟨_, Nat.mod_lt _ (by first | exact zq_adn (by decide) | exact zq_adr (zq_adn (by decide)) | omega), hd, rfl⟩
    | true =>
      have hq : q ≠ k := fun e => by
        rw [e, hd] at c
        cases c
      have e1 : zc1 .ne (bif true then Int32.ofNat 1 else Int32.ofNat 0) = true := by decide
      rw [e1, cond_true]
      exact ih (k + 1) (by first | exact zq_adn (by decide) | exact zq_adr (zq_adn (by decide)) | omega) (by first | exact zq_adn (by decide) | exact zq_adr (zq_adn (by decide)) | omega) ⟨q, by omega, b, c⟩
/-- not all are done: the next one -/
theorem next_ok {W : Nat → Int32} (h : WG W) (hL : LT W) (hc : zc1 .ne (q_areAllDone W) = false) : ∃ v, v < nv W 9 ∧ AL W v ∧ q_nextOne W = Int32.ofNat v := by
  have h0 : ¬ ndc W (nv W 9) 0 = 0 := by
    intro e
    rw [(done_fin h.N h.N4).2, e] at hc
    exact absurd hc (by decide)
  obtain ⟨u, -, h2, h3⟩ := ndc_ex W _ _ h0
  obtain ⟨k, -, k1, k2, k3⟩ := nx_cov (nv W 9) h.N4 (lt1 W) hL.2 u (by first | exact zq_adn (by decide) | exact zq_adr (zq_adn (by decide)) | omega)
  obtain ⟨v, v1, v2, v3⟩ := nextL rfl h.N4 (nv W 9) 1 (by first | exact zq_adn (by decide) | exact zq_adr (zq_adn (by decide)) | omega) (by first | exact zq_adn (by decide) | exact zq_adr (zq_adn (by decide)) | omega) ⟨k, k1, k2, by rw [k3]; exact h3⟩
  have := h.N4
  exact ⟨v, v1, dn_AL h (by first | exact zq_adn (by decide) | exact zq_adr (zq_adn (by decide)) | omega) v2, v3⟩
theorem zsub1 {A : Nat} (h : 1 ≤ A) : Int32.ofNat A + Int32.ofInt (-1) = Int32.ofNat (A - 1) := by
  have e : A = A - 1 + 1 := by omega
  rw [e, Int32.ofNat_add, Nat.add_sub_cancel, Int32.add_assoc]
  have e2 : Int32.ofNat 1 + Int32.ofInt (-1) = 0 := by decide
  rw [e2, Int32.add_zero]
theorem drawL {W : Nat → Int32} {n9 : Nat} : ∀ n k A, A < 2147483648 → A < ndc W n k → ∃ v, k ≤ v ∧ v < k + n ∧ dn W v = false ∧ l_drawnOne W n9 n (Int32.ofNat A) k = Int32.ofNat v := by
  intro n
  induction n with
  | zero => intro k A _ h; exact absurd h (Nat.not_lt_zero _)
  | succ n ih =>
    intro k A hA h
    rw [ndc] at h
    rw [l_drawnOne, isDone_dn]
    cases hd : dn W k with
    | true =>
      rw [hd, cond_true, Nat.zero_add] at h
      have e1 : zc1 .eq (bif true then Int32.ofNat 1 else Int32.ofNat 0) = false := by decide
      rw [e1, cond_false]
      obtain ⟨v, a, b, c, e⟩ := ih (k + 1) A hA h
      exact ⟨v, by omega, by omega, c, e⟩
    | false =>
      rw [hd, cond_false] at h
      have e1 : zc1 .eq (bif false then Int32.ofNat 1 else Int32.ofNat 0) = true := by decide
      rw [e1, cond_true]
      by_cases h0 : A = 0
      · subst h0
        have e2 : zc1 .ne (Int32.ofNat 0) = false := by decide
        rw [e2, cond_false]
        exact ⟨k, Nat.le_refl _, by omega, hd, rfl⟩
      · have e2 : zc1 .ne (Int32.ofNat A) = true := by
          apply decide_eq_true
          exact zon0 (by first | exact zq_adn (by decide) | exact zq_adr (zq_adn (by decide)) | omega) hA
        rw [e2, cond_true, zsub1 (by first | exact zq_adn (by decide) | exact zq_adr (zq_adn (by decide)) | omega)]
        obtain ⟨v, a, b, c, e⟩ := ih (k + 1) (A - 1) (by first | exact zq_adn (by decide) | exact zq_adr (zq_adn (by decide)) | omega) (by first | exact zq_adn (by decide) | exact zq_adr (zq_adn (by decide)) | omega)
        exact ⟨v, by omega, by omega, c, e⟩
