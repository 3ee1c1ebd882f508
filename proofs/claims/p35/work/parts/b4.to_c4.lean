/-! b4.cpv b5.xrule c1.cpar c2.cpar c3.cpar c4.cpar -/
section
/-! what a copy of a machine holds -/
theorem zcpy_in {m : Nat → Nat → Int32} {a0 a1 n k : Nat} (h : k < n) : zcpy m a0 a1 0 0 n a1 k = m a0 k := by
  unfold zcpy va_cpy
  rw [if_pos rfl, if_pos ⟨Nat.zero_le _, by omega⟩, show 0 + (k - 0) = k by omega]
/-- the cells of a thread's objects -/
noncomputable def svc (j k : Nat) : Prop := (j = 0 ∧ 2 ≤ k ∧ k ≤ 7) ∨ (j = 1 ∧ k < 24) ∨ (j = 2 ∧ k < 24) ∨ (j = 3 ∧ k < 5) ∨ (j = 4 ∧ k ≤ 9 ∧ k ≠ 4 ∧ k ≠ 8) ∨ (j = 5 ∧ k < 4) ∨ (j = 6 ∧ k < 32)
section ZCV
variable {m : Nat → Nat → Int32} {b c t : Nat}
theorem guessCp_v4 (hbc : b + 42 ≤ c ∨ c + 42 ≤ b) (ht : t < 4) {k : Nat} (h : k ≤ 9 ∧ k ≠ 4 ∧ k ≠ 8) : x_guessCp m b t c (b + 14 + 7 * t) k = m (c + 14 + 7 * t) k := by
  unfold x_guessCp
  by_cases h9 : k = 9
  · subst h9; rw [zx_at]
  rw [zx_nk _ _ h9, zcpy_ne (by omega)]
  by_cases h7 : k = 7
  · subst h7; rw [zx_at]
  rw [zx_nk _ _ h7]
  by_cases h6 : k = 6
  · subst h6; rw [zx_at]
  rw [zx_nk _ _ h6]
  by_cases h5 : k = 5
  · subst h5; rw [zx_at]
  rw [zx_nk _ _ h5, zcpy_ne (by omega)]
  by_cases h3 : k = 3
  · subst h3; rw [zx_at]
  rw [zx_nk _ _ h3]
  by_cases h2 : k = 2
  · subst h2; rw [zx_at]
  rw [zx_nk _ _ h2]
  by_cases h1 : k = 1
  · subst h1; rw [zx_at]
  rw [zx_nk _ _ h1]
  have h0 : k = 0 := by omega
  subst h0
  rw [zx_at]
theorem guessCp_v5 (hbc : b + 42 ≤ c ∨ c + 42 ≤ b) (ht : t < 4) {k : Nat} (h : k < 4) : x_guessCp m b t c (b + 15 + 7 * t) k = m (c + 15 + 7 * t) k := by
  unfold x_guessCp
  rw [zx_ne _ _ _ (by omega), zcpy_ne (by omega), zx_ne _ _ _ (by omega), zx_ne _ _ _ (by omega), zx_ne _ _ _ (by omega), zcpy_in h]
  simp (disch := omega) only [zx_ne]
theorem guessCp_v6 (hbc : b + 42 ≤ c ∨ c + 42 ≤ b) (ht : t < 4) {k : Nat} (h : k < 32) : x_guessCp m b t c (b + 16 + 7 * t) k = m (c + 16 + 7 * t) k := by
  unfold x_guessCp
  rw [zx_ne _ _ _ (by omega), zcpy_in h]
  simp (disch := omega) only [zx_ne, zcpy_ne]
theorem strandCp_v (hbc : b + 42 ≤ c ∨ c + 42 ≤ b) (ht : t < 4) {j k : Nat} (h : svc j k) : x_strandCp m b t c (b + (10 + j) + 7 * t) k = m (c + (10 + j) + 7 * t) k := by
  unfold x_strandCp
  rcases h with ⟨rfl, h⟩ | ⟨rfl, h⟩ | ⟨rfl, h⟩ | ⟨rfl, h⟩ | ⟨rfl, h⟩ | ⟨rfl, h⟩ | ⟨rfl, h⟩
  · rw [guessCp_ne (by omega), zcpy_ne (by omega)]
    show zm2 _ (b + 10 + 7 * t) 7 _ (b + 10 + 7 * t) k = m (c + 10 + 7 * t) k
    by_cases h7 : k = 7
    · subst h7; rw [zx_at]
    rw [zx_nk _ _ h7]
    by_cases h6 : k = 6
    · subst h6; rw [zx_at]
    rw [zx_nk _ _ h6]
    by_cases h5 : k = 5
    · subst h5; rw [zx_at]
    rw [zx_nk _ _ h5]
    by_cases h4 : k = 4
    · subst h4; rw [zx_at]
    rw [zx_nk _ _ h4]
    by_cases h3 : k = 3
    · subst h3; rw [zx_at]
    rw [zx_nk _ _ h3]
    have h2 : k = 2 := by omega
    subst h2
    rw [zx_at]
  · rw [guessCp_ne (by omega), zcpy_ne (by omega)]
    show zm2 _ (b + 10 + 7 * t) 7 _ (b + 11 + 7 * t) k = m (c + 11 + 7 * t) k
    rw [zx_ne _ _ _ (by omega), zx_ne _ _ _ (by omega), zx_ne _ _ _ (by omega), zx_ne _ _ _ (by omega), zx_ne _ _ _ (by omega), zx_ne _ _ _ (by omega), zcpy_ne (by omega), zcpy_in h]
  · rw [guessCp_ne (by omega), zcpy_ne (by omega)]
    show zm2 _ (b + 10 + 7 * t) 7 _ (b + 12 + 7 * t) k = m (c + 12 + 7 * t) k
    rw [zx_ne _ _ _ (by omega), zx_ne _ _ _ (by omega), zx_ne _ _ _ (by omega), zx_ne _ _ _ (by omega), zx_ne _ _ _ (by omega), zx_ne _ _ _ (by omega), zcpy_in h, zcpy_ne (by omega)]
  · rw [guessCp_ne (by omega)]
    show zcpy _ (c + 13 + 7 * t) (b + 13 + 7 * t) 0 0 5 (b + 13 + 7 * t) k = m (c + 13 + 7 * t) k
    rw [zcpy_in h]
    simp (disch := omega) only [zx_ne, zcpy_ne]
  · show x_guessCp _ b t c (b + 14 + 7 * t) k = m (c + 14 + 7 * t) k
    rw [guessCp_v4 hbc ht h]
    simp (disch := omega) only [zx_ne, zcpy_ne]
  · show x_guessCp _ b t c (b + 15 + 7 * t) k = m (c + 15 + 7 * t) k
    rw [guessCp_v5 hbc ht h]
    simp (disch := omega) only [zx_ne, zcpy_ne]
  · show x_guessCp _ b t c (b + 16 + 7 * t) k = m (c + 16 + 7 * t) k
    rw [guessCp_v6 hbc ht h]
    simp (disch := omega) only [zx_ne, zcpy_ne]
/-- the cells beside the threads that the last part of a copy writes -/
noncomputable def tvc (o k : Nat) : Prop := (o = 0 ∧ (k = 6 ∨ k = 7 ∨ k = 8 ∨ k = 9 ∨ k = 12)) ∨ (o = 38 ∧ k < 20) ∨ (o = 39 ∧ k < 20) ∨ (o = 40 ∧ (k = 1 ∨ k = 2)) ∨ (o = 41 ∧ k < 240)
theorem copyE_v (hbc : b + 42 ≤ c ∨ c + 42 ≤ b) {n5 q o k : Nat} (h : tvc o k) : xl_copyT b c n5 0 q m (b + o) k = m (c + o) k := by
  unfold xl_copyT x_logCp
  rcases h with ⟨rfl, h⟩ | ⟨rfl, h⟩ | ⟨rfl, h⟩ | ⟨rfl, h⟩ | ⟨rfl, h⟩
  · rw [zx_ne _ _ _ (by omega), zx_ne _ _ _ (by omega), zcpy_ne (by omega)]
    show zm2 _ b 12 _ b k = m c k
    by_cases h12 : k = 12
    · subst h12; rw [zx_at]
    rw [zx_nk _ _ h12, zcpy_ne (by omega), zcpy_ne (by omega)]
    by_cases h9 : k = 9
    · subst h9; rw [zx_at]
    rw [zx_nk _ _ h9]
    by_cases h8 : k = 8
    · subst h8; rw [zx_at]
    rw [zx_nk _ _ h8]
    by_cases h7 : k = 7
    · subst h7; rw [zx_at]
    rw [zx_nk _ _ h7]
    have h6 : k = 6 := by omega
    subst h6
    rw [zx_at]
  · rw [zx_ne _ _ _ (by omega), zx_ne _ _ _ (by omega), zcpy_ne (by omega), zx_ne _ _ _ (by omega), zcpy_ne (by omega), zcpy_in h]
    simp (disch := omega) only [zx_ne, zcpy_ne]
  · rw [zx_ne _ _ _ (by omega), zx_ne _ _ _ (by omega), zcpy_ne (by omega), zx_ne _ _ _ (by omega), zcpy_in h]
    simp (disch := omega) only [zx_ne, zcpy_ne]
  · by_cases h2 : k = 2
    · subst h2
      rw [zx_at]
      simp (disch := omega) only [zx_ne, zcpy_ne]
    · have h1 : k = 1 := by omega
      subst h1
      rw [zx_nk _ _ (by omega), zx_at]
      simp (disch := omega) only [zx_ne, zcpy_ne]
  · rw [zx_ne _ _ _ (by omega), zx_ne _ _ _ (by omega), zcpy_in h]
    simp (disch := omega) only [zx_ne, zcpy_ne]
theorem copyE_ne {n5 q i l : Nat} (h : (i < b ∨ b + 42 ≤ i) ∨ (b < i ∧ i < b + 38) ∨ (i = b ∧ l ≠ 6 ∧ l ≠ 7 ∧ l ≠ 8 ∧ l ≠ 9 ∧ l ≠ 12)) : xl_copyT b c n5 0 q m i l = m i l := by
  unfold xl_copyT x_logCp
  rcases h with h | h | ⟨rfl, h⟩
  · simp (disch := omega) only [zx_ne, zcpy_ne]
  · simp (disch := omega) only [zx_ne, zcpy_ne]
  · rw [zx_ne _ _ _ (by omega), zx_ne _ _ _ (by omega), zcpy_ne (by omega), zx_nk _ _ (by omega), zcpy_ne (by omega), zcpy_ne (by omega), zx_nk _ _ (by omega), zx_nk _ _ (by omega), zx_nk _ _ (by omega), zx_nk _ _ (by omega)]
theorem copyT_ne {n5 : Nat} (hn : n5 ≤ 4) : ∀ (n k : Nat) (m : Nat → Nat → Int32), k + n = n5 → ∀ i l, (i < b ∨ b + 42 ≤ i) ∨ (b < i ∧ i < b + 10 + 7 * k) ∨ (b + 10 + 7 * n5 ≤ i ∧ i < b + 38) ∨ (i = b ∧ l ≠ 6 ∧ l ≠ 7 ∧ l ≠ 8 ∧ l ≠ 9 ∧ l ≠ 12) → xl_copyT b c n5 n k m i l = m i l := by
  intro n
  induction n with
  | zero => intro k m hk i l h; exact copyE_ne (by omega)
  | succ n ih =>
    intro k m hk i l h
    rw [xl_copyT, ih (k + 1) _ (by omega) i l (by omega)]
    exact strandCp_ne (by omega)
theorem copyT_e (hbc : b + 42 ≤ c ∨ c + 42 ≤ b) {n5 : Nat} (hn : n5 ≤ 4) : ∀ (n k : Nat) (m : Nat → Nat → Int32), k + n = n5 → ∀ o l, tvc o l → xl_copyT b c n5 n k m (b + o) l = m (c + o) l := by
  intro n
  induction n with
  | zero => intro k m hk o l h; exact copyE_v hbc h
  | succ n ih =>
    intro k m hk o l h
    have ho : o = 0 ∨ (38 ≤ o ∧ o ≤ 41) := by unfold tvc at h; omega
    rw [xl_copyT, ih (k + 1) _ (by omega) o l h]
    exact strandCp_ne (by omega)
theorem copyT_t (hbc : b + 42 ≤ c ∨ c + 42 ≤ b) {n5 : Nat} (hn : n5 ≤ 4) : ∀ (n k : Nat) (m : Nat → Nat → Int32), k + n = n5 → ∀ t j l, k ≤ t → t < n5 → svc j l → xl_copyT b c n5 n k m (b + (10 + j) + 7 * t) l = m (c + (10 + j) + 7 * t) l := by
  intro n
  induction n with
  | zero => intro k m hk t j l h1 h2; omega
  | succ n ih =>
    intro k m hk t j l h1 h2 h
    have hj : j ≤ 6 := by unfold svc at h; omega
    rw [xl_copyT]
    by_cases e : t = k
    · subst e
      rw [copyT_ne hn n (t + 1) _ (by omega) _ _ (by omega)]
      exact strandCp_v hbc (by omega) h
    · rw [ih (k + 1) _ (by omega) t j l (by omega) h2 h]
      exact strandCp_ne (by omega)
theorem lockCp_v (hbc : b + 42 ≤ c ∨ c + 42 ≤ b) {l k : Nat} (hl : l < 4) (hk : k < 4) : x_lockCp m b l c (b + 5 + l) k = m (c + 5 + l) k := by
  unfold x_lockCp
  by_cases h3 : k = 3
  · subst h3; rw [zx_at]
  rw [zx_nk _ _ h3]
  by_cases h2 : k = 2
  · subst h2; rw [zx_at]
  rw [zx_nk _ _ h2]
  by_cases h1 : k = 1
  · subst h1; rw [zx_at]
  rw [zx_nk _ _ h1]
  have h0 : k = 0 := by omega
  subst h0
  rw [zx_at]
/-- the memory as the threads are copied -/
theorem copyK_is {n5 : Nat} (hn : n5 ≤ 4) (hbc : b + 42 ≤ c ∨ c + 42 ≤ b) : ∀ (n k : Nat) (m : Nat → Nat → Int32), k + n = 4 → ∃ m1, xl_copyK b c n5 n k m = xl_copyT b c n5 n5 0 (zm2 m1 b 5 (Int32.ofNat n5)) ∧ (∀ i l, i < b + 5 + k ∨ b + 9 ≤ i → m1 i l = m i l) ∧ ∀ l q, k ≤ l → l < 4 → q < 4 → m1 (b + 5 + l) q = m (c + 5 + l) q := by
  intro n
  induction n with
  | zero => intro k m hk; exact ⟨m, rfl, fun _ _ _ => rfl, fun l q h1 h2 => absurd h1 (by omega)⟩
  | succ n ih =>
    intro k m hk
    obtain ⟨m1, h1, h2, h3⟩ := ih (k + 1) (x_lockCp m b k c) (by omega)
    refine ⟨m1, by rw [xl_copyK]; exact h1, fun i l h => (h2 i l (by omega)).trans (lockCp_ne (by omega)), fun l q g1 g2 g3 => ?_⟩
    by_cases e : l = k
    · subst e
      exact (h2 _ _ (by omega)).trans (lockCp_v hbc g2 g3)
    · exact (h3 l q (by omega) g2 g3).trans (lockCp_ne (by omega))
/-- all cells of a machine beside the threads' -/
noncomputable def mvc (o k : Nat) : Prop := tvc o k ∨ (o = 1 ∧ k < 32) ∨ (o = 2 ∧ k < 32) ∨ (o = 3 ∧ k < 9) ∨ (5 ≤ o ∧ o < 9 ∧ k < 4) ∨ (o = 0 ∧ k = 5)
theorem copy_all (hbc : b + 42 ≤ c ∨ c + 42 ≤ b) (h5 : m c 5 = Int32.ofNat (mv m c 5)) (hn : mv m c 5 ≤ 4) : (∀ i l, i < b ∨ b + 42 ≤ i ∨ (b + 10 + 7 * mv m c 5 ≤ i ∧ i < b + 38) → x_copyFrom m b c i l = m i l) ∧ (∀ o k, mvc o k → x_copyFrom m b c (b + o) k = m (c + o) k) ∧ ∀ t j k, t < mv m c 5 → svc j k → x_copyFrom m b c (b + (10 + j) + 7 * t) k = m (c + (10 + j) + 7 * t) k := by
  unfold x_copyFrom
  obtain ⟨m1, h1, h2, h3⟩ := copyK_is (b := b) (c := c) hn hbc 4 0 (zcpy (zcpy (zcpy m (c + 1) (b + 1) 0 0 32) (c + 2) (b + 2) 0 0 32) (c + 3) (b + 3) 0 0 9) rfl
  rw [h1]
  have out : ∀ i l, i ≠ b + 1 → i ≠ b + 2 → i ≠ b + 3 → (i < b + 5 ∨ b + 9 ≤ i) → m1 i l = m i l := by
    intro i l a1 a2 a3 a4
    rw [h2 i l (by omega), zcpy_ne a3, zcpy_ne a2, zcpy_ne a1]
  refine ⟨fun i l h => ?_, fun o k h => ?_, fun t j k ht h => ?_⟩
  · rw [copyT_ne hn _ 0 _ (by omega) i l (by omega), zx_ne _ _ _ (by omega)]
    exact out i l (by omega) (by omega) (by omega) (by omega)
  · rcases h with h | ⟨rfl, h⟩ | ⟨rfl, h⟩ | ⟨rfl, h⟩ | ⟨h4, h9, h⟩ | ⟨rfl, rfl⟩
    · rw [copyT_e hbc hn _ 0 _ (by omega) o k h]
      have ho : o = 0 ∨ (38 ≤ o ∧ o ≤ 41) := by unfold tvc at h; omega
      rw [zx_ne _ _ _ (by omega)]
      exact out _ _ (by omega) (by omega) (by omega) (by omega)
    · rw [copyT_ne hn _ 0 _ (by omega) _ _ (by omega), zx_ne _ _ _ (by omega), h2 _ _ (by omega), zcpy_ne (by omega), zcpy_ne (by omega), zcpy_in h]
    · rw [copyT_ne hn _ 0 _ (by omega) _ _ (by omega), zx_ne _ _ _ (by omega), h2 _ _ (by omega), zcpy_ne (by omega), zcpy_in h, zcpy_ne (by omega)]
    · rw [copyT_ne hn _ 0 _ (by omega) _ _ (by omega), zx_ne _ _ _ (by omega), h2 _ _ (by omega), zcpy_in h, zcpy_ne (by omega), zcpy_ne (by omega)]
    · obtain ⟨l, rfl⟩ : ∃ l, o = 5 + l := ⟨o - 5, by omega⟩
      rw [copyT_ne hn _ 0 _ (by omega) _ _ (by omega), zx_ne _ _ _ (by omega), ← Nat.add_assoc, h3 l k (by omega) (by omega) h, ← Nat.add_assoc, zcpy_ne (by omega), zcpy_ne (by omega), zcpy_ne (by omega)]
    · show xl_copyT b c (mv m c 5) (mv m c 5) 0 _ b 5 = m c 5
      rw [copyT_ne hn _ 0 _ (by omega) _ _ (by omega), zx_at]
      exact h5.symm
  · have hj : j ≤ 6 := by unfold svc at h; omega
    rw [copyT_t hbc hn _ 0 _ (by omega) t j k (Nat.zero_le _) ht h, zx_ne _ _ _ (by omega)]
    exact out _ _ (by omega) (by omega) (by omega) (by omega)
theorem CG.copy (hbc : b + 42 ≤ c ∨ c + 42 ≤ b) (hb : CG m b) (hc : CG m c) : CG (x_copyFrom m b c) b := by
  obtain ⟨h1, h2, h3⟩ := copy_all hbc hc.c hc.c4
  have key : ∀ {a k hi a'}, okm m a' k hi → x_copyFrom m b c a k = m a' k → okm (x_copyFrom m b c) a k hi := by
    intro a k hi a' h e
    unfold okm mv at *
    rw [e]; exact h
  refine ⟨key hc.1 (h2 40 2 (by unfold mvc tvc; omega)), key hc.2.1 (h2 0 5 (by unfold mvc tvc; omega)), fun t ht => ?_, key hc.2.2.2.1 (h2 0 12 (by unfold mvc tvc; omega)), fun l hl => ?_⟩
  · by_cases e : t < mv m c 5
    · exact ⟨key (hc.2.2.1 t ht).1 (h3 t 4 5 e (by unfold svc; omega)), fun k hk => key ((hc.2.2.1 t ht).2 k hk) (h3 t 5 k e (by unfold svc; omega))⟩
    · exact ⟨(hb.2.2.1 t ht).1.of (h1 _ _ (by omega)), fun k hk => ((hb.2.2.1 t ht).2 k hk).of (h1 _ _ (by omega))⟩
  · have e := h2 (5 + l) 0 (by unfold mvc tvc; omega)
    rw [← Nat.add_assoc, ← Nat.add_assoc] at e
    exact key (hc.2.2.2.2 l hl) e
theorem KX.copy (hbc : b + 42 ≤ c ∨ c + 42 ≤ b) (hb : KX m b P0) (hk : KX m c P0) (hc : CG m c) : KX (x_copyFrom m b c) b P0 := by
  obtain ⟨h1, h2, h3⟩ := copy_all hbc hc.c hc.c4
  refine ⟨fun t ht => ?_, ?_, fun _ _ q => absurd q id⟩
  · by_cases e : t < mv m c 5
    · have e2 : x_copyFrom m b c (b + 10 + 7 * t) 2 = m (c + 10 + 7 * t) 2 := h3 t 0 2 e (by unfold svc; omega)
      have e3 : x_copyFrom m b c (b + 10 + 7 * t) 3 = m (c + 10 + 7 * t) 3 := h3 t 0 3 e (by unfold svc; omega)
      have g0 : x_copyFrom m b c (b + 14 + 7 * t) 0 = m (c + 14 + 7 * t) 0 := h3 t 4 0 e (by unfold svc; omega)
      have g1 : x_copyFrom m b c (b + 14 + 7 * t) 1 = m (c + 14 + 7 * t) 1 := h3 t 4 1 e (by unfold svc; omega)
      have eK : ∀ p, p < 24 → x_copyFrom m b c (b + 11 + 7 * t) p = m (c + 11 + 7 * t) p := fun p hp => h3 t 1 p e (by unfold svc; omega)
      have eN : ∀ p, p < 24 → x_copyFrom m b c (b + 12 + 7 * t) p = m (c + 12 + 7 * t) p := fun p hp => h3 t 2 p e (by unfold svc; omega)
      have hD := hk.1 t ht
      unfold DT okm mv at hD ⊢
      rw [e2, e3, g0, g1]
      refine ⟨hD.1, hD.2.1, hD.2.2.1, hD.2.2.2.1, fun p hp => ?_⟩
      rw [eK p hp, eN p hp]
      exact hD.2.2.2.2 p hp
    · exact (hb.1 t ht).of (h1 _ _ (by omega)) ((hb.1 t ht).2.1.of (h1 _ _ (by omega))) ((hb.1 t ht).2.2.1.of (h1 _ _ (by omega))) (by rw [h1 _ _ (by omega)]; exact (hb.1 t ht).2.2.2.1) (fun p => h1 _ _ (by omega)) (fun p => h1 _ _ (by omega))
  · have e : x_copyFrom m b c b 8 = m c 8 := h2 0 8 (by unfold mvc tvc; omega)
    have h := hk.2.1
    unfold LTC ltc at h ⊢
    rw [e]
    exact h
end ZCV
end
section
/-! rules for the class's Reader: its place and begin beside the memory -/
noncomputable def XP (m : Nat → Nat → Int32) (p b : Nat) : Nat → Nat → Int32 := fun i => if i = 128 then (fun k => if k = 3 then Int32.ofNat p else if k = 4 then Int32.ofNat b else m 128 k) else m i
theorem XP_ne {m : Nat → Nat → Int32} {p b i : Nat} (h : i ≠ 128) : XP m p b i = m i := if_neg h
theorem XP_p (m : Nat → Nat → Int32) (p b q : Nat) : zm2 (XP m p b) 128 3 (Int32.ofNat q) = XP m q b := by
  funext i k
  unfold zm2 XP upd
  by_cases h : i = 128
  · subst h
    by_cases h8 : k = 3
    · simp [h8]
    · simp [h8]
  · simp [h]
theorem XP_b (m : Nat → Nat → Int32) (p b q : Nat) : zm2 (XP m p b) 128 4 (Int32.ofNat q) = XP m p q := by
  funext i k
  unfold zm2 XP upd
  by_cases h : i = 128
  · subst h
    by_cases h8 : k = 4
    · simp [h8]
    · simp [h8]
  · simp [h]
theorem XP_put (m : Nat → Nat → Int32) (p b : Nat) {a : Nat} (k : Nat) (x : Int32) (h : a ≠ 128) : zm2 (XP m p b) a k x = XP (zm2 m a k x) p b := by
  funext i l
  unfold zm2 XP
  by_cases hi : i = a
  · subst hi
    rw [if_pos rfl, if_neg h, if_neg h]
    show _ = (if i = i then upd (m i) k x else m i) l
    rw [if_pos rfl]
  · rw [if_neg hi]
    by_cases h2 : i = 128
    · subst h2
      rw [if_pos rfl, if_pos rfl]
      show _ = if l = 3 then _ else if l = 4 then _ else (if 128 = a then upd (m a) k x else m 128) l
      rw [if_neg hi]
    · rw [if_neg h2, if_neg h2]
      show _ = (if i = a then upd (m a) k x else m i) l
      rw [if_neg hi]
theorem XP_self {m : Nat → Nat → Int32} {p b : Nat} (hp : m 128 3 = Int32.ofNat p) (hb : m 128 4 = Int32.ofNat b) : XP m p b = m := by
  funext i k
  unfold XP
  by_cases h : i = 128
  · subst h
    by_cases h8 : k = 3
    · subst h8; simp [hp]
    · by_cases h10 : k = 4
      · subst h10; simp [hb]
      · simp [h8, h10]
  · simp [h]
/-- the Reader's text -/
noncomputable def XR (m : Nat → Nat → Int32) (T : Nat → Int32) (e : Nat) : Prop := (∀ k, k < 400 → m 127 k = T k) ∧ m 128 2 = Int32.ofNat e ∧ e ≤ 400
theorem XR.put {m : Nat → Nat → Int32} {T : Nat → Int32} {e a k : Nat} (h : XR m T e) (x : Int32) (ha : a < 127) : XR (zm2 m a k x) T e := by
  refine ⟨fun l hl => ?_, ?_, h.2.2⟩
  · rw [zx_ne _ _ _ (by omega)]; exact h.1 l hl
  · rw [zx_ne _ _ _ (by omega)]; exact h.2.1
theorem XR.same {m m' : Nat → Nat → Int32} {T : Nat → Int32} {e : Nat} (h : XR m T e) (g : ∀ i l, 127 ≤ i → i ≤ 128 → m' i l = m i l) : XR m' T e := ⟨fun l hl => by rw [g _ _ (by omega) (by omega)]; exact h.1 l hl, by rw [g _ _ (by omega) (by omega)]; exact h.2.1, h.2.2⟩
theorem zS127 : zS1[127]? = some (11, 400, []) := rfl
theorem zS128 : zS1[128]? = some (5, 0, [128, 44, 0, 0, 0]) := rfl
/-- the rows of the start -/
noncomputable def ZS (σ : Nat → Nat × (Nat → Int32)) : Prop := ∀ n, n < 4 → σ (n + 1) = ((zla n).length, fun k => (zla n).getD k 0)
section ZXR
variable {σ : Nat → Nat × (Nat → Int32)} {d j pc : Nat} {lv : zLv} {r st : List Value} {m : Nat → Nat → Int32} {p b : Nat} {y : (Nat → Nat → Int64) × Bool × Nat × Nat} {o : zO} {M' : zMem}
theorem zeXp {idx pl : Nat} (hf : zfe j pc = some (.getfield idx, 3)) (hl : (zfp (j / 200)).lookup idx = some (5, 3, pl)) (kk : zEv σ d j (pc + 3) lv (.int (Int32.ofNat p) :: r) (zS1, XP m p b, y) o M') : zEv σ d j pc lv (.ref 128 :: r) (zS1, XP m p b, y) o M' := zeGI hf hl zS128 rfl rfl kk
theorem zeXb {idx pl : Nat} (hf : zfe j pc = some (.getfield idx, 3)) (hl : (zfp (j / 200)).lookup idx = some (5, 4, pl)) (kk : zEv σ d j (pc + 3) lv (.int (Int32.ofNat b) :: r) (zS1, XP m p b, y) o M') : zEv σ d j pc lv (.ref 128 :: r) (zS1, XP m p b, y) o M' := zeGI hf hl zS128 rfl rfl kk
theorem zeXe {idx pl e : Nat} (he : m 128 2 = Int32.ofNat e) (hf : zfe j pc = some (.getfield idx, 3)) (hl : (zfp (j / 200)).lookup idx = some (5, 2, pl)) (kk : zEv σ d j (pc + 3) lv (.int (Int32.ofNat e) :: r) (zS1, XP m p b, y) o M') : zEv σ d j pc lv (.ref 128 :: r) (zS1, XP m p b, y) o M' := by
  rw [← he] at kk
  exact zeGI hf hl zS128 rfl rfl kk
theorem zeXpS {idx pl q : Nat} (hf : zfe j pc = some (.putfield idx, 3)) (hl : (zfp (j / 200)).lookup idx = some (5, 3, pl)) (kk : zEv σ d j (pc + 3) lv r (zS1, XP m q b, y) o M') : zEv σ d j pc lv (.int (Int32.ofNat q) :: .ref 128 :: r) (zS1, XP m p b, y) o M' := by
  refine zePI hf hl zS128 rfl ?_
  rw [XP_p]
  exact kk
theorem zeXbS {idx pl q : Nat} (hf : zfe j pc = some (.putfield idx, 3)) (hl : (zfp (j / 200)).lookup idx = some (5, 4, pl)) (kk : zEv σ d j (pc + 3) lv r (zS1, XP m p q, y) o M') : zEv σ d j pc lv (.int (Int32.ofNat q) :: .ref 128 :: r) (zS1, XP m p b, y) o M' := by
  refine zePI hf hl zS128 rfl ?_
  rw [XP_b]
  exact kk
theorem zeXB {T : Nat → Int32} {e k : Nat} (hG : XR m T e) (hf : zfe j pc = some (.baload, 1)) (hk : k < 400) (kk : zEv σ d j (pc + 1) lv (.int (T k) :: r) (zS1, XP m p b, y) o M') : zEv σ d j pc lv (.int (Int32.ofNat k) :: .ref 127 :: r) (zS1, XP m p b, y) o M' := by
  refine zeBL hf zS127 rfl hk ?_
  rw [XP_ne (by decide), hG.1 k hk]
  exact kk
theorem zeXGI {idx ci k pl a n t : Nat} {rs : List Nat} {f : Bool} (ha : a ≠ 128) (hf : zfe j pc = some (.getfield idx, 3)) (hl : (zfp (j / 200)).lookup idx = some (ci, k, pl)) (hS : zS1[a]? = some (ci, n, rs)) (ht : (zft ci)[k]? = some (t, f)) (h2 : Nat.beq t 2 = false) (kk : zEv σ d j (pc + 3) lv (.int (m a k) :: r) (zS1, XP m p b, y) o M') : zEv σ d j pc lv (.ref a :: r) (zS1, XP m p b, y) o M' := by
  refine zeGI hf hl hS ht h2 ?_
  rw [XP_ne ha]
  exact kk
theorem zeXPI {idx ci k pl a n : Nat} {rs : List Nat} {x : Int32} (ha : a ≠ 128) (hf : zfe j pc = some (.putfield idx, 3)) (hl : (zfp (j / 200)).lookup idx = some (ci, k, pl)) (hS : zS1[a]? = some (ci, n, rs)) (ht : (zft ci)[k]? = some (0, false)) (kk : zEv σ d j (pc + 3) lv r (zS1, XP (zm2 m a k x) p b, y) o M') : zEv σ d j pc lv (.int x :: .ref a :: r) (zS1, XP m p b, y) o M' := by
  refine zePI hf hl hS ht ?_
  rw [XP_put _ _ _ _ _ ha]
  exact kk
theorem zeXAS {a n k : Nat} {rs : List Nat} {x : Int32} (ha : a ≠ 128) (hf : zfe j pc = some (.iastore, 1)) (hS : zS1[a]? = some (10, n, rs)) (hn : Nat.ble n 2000 = true) (hk : k < n) (kk : zEv σ d j (pc + 1) lv r (zS1, XP (zm2 m a k x) p b, y) o M') : zEv σ d j pc lv (.int x :: .int (Int32.ofNat k) :: .ref a :: r) (zS1, XP m p b, y) o M' := by
  refine zeAS hf hS hn hk ?_
  rw [XP_put _ _ _ _ _ ha]
  exact kk
theorem zeSt {M : zMem} {n k : Nat} (hs : ZS σ) (hn : n < 4) (hf : zfe j pc = some (.iaload, 1)) (hk : k < (zla n).length) (hl : (zla n).length ≤ 2000) (kk : zEv σ d j (pc + 1) lv (.int ((zla n).getD k 0) :: r) M o M') : zEv σ d j pc lv (.int (Int32.ofNat k) :: .ref (1000 + (n + 1)) :: r) M o M' := by
  refine zeS hf rfl ?_ kk
  have h1 : Nat.blt (1000 + (n + 1)) 1000 = false := by
    cases hb : Nat.blt (1000 + (n + 1)) 1000 with
    | false => rfl
    | true => exact absurd (Nat.le_of_ble_eq_true hb) (by omega)
  have h2 : Nat.blt (1000 + (n + 1)) 1005 = true := Nat.ble_eq_true_of_le (by omega)
  have h3 : 1000 + (n + 1) - 1000 = n + 1 := by omega
  have h4 : zoutB (Int32.ofNat k) (zla n).length = false := zinB hk hl
  have h5 : (Int32.ofNat k).toNatClampNeg = k := zcl hk hl
  simp only [zS, ziald, h1, cond_false, h2, h3, hs n hn, h4, h5, Bool.not_false, Bool.and_self, cond_true]
end ZXR
end
section
theorem teqf_ne {a b : Nat} (h : zc2 .eq (Int32.ofNat a) (Int32.ofNat b) = false) : a ≠ b := by
  intro e
  subst e
  exact absurd rfl (of_decide_eq_false h)
theorem tgt_t {a b : Nat} (ha : a ≤ 100000) (hb : b ≤ 100000) (h : b < a) : zc2 .gt (Int32.ofNat a) (Int32.ofNat b) = true := by
  apply decide_eq_true
  rw [Int32.lt_iff_toInt_lt, zoN (by omega), zoN (by omega)]
  omega
theorem tgt_f {a b : Nat} (ha : a ≤ 100000) (hb : b ≤ 100000) (h : a ≤ b) : zc2 .gt (Int32.ofNat a) (Int32.ofNat b) = false := by
  apply decide_eq_false
  rw [Int32.lt_iff_toInt_lt, zoN (by omega), zoN (by omega)]
  omega
noncomputable def yl_look (T : (Nat → Int32)) (e : Nat) : Nat → Nat → Nat × Nat
  | 0, p => (p, p)
  | n + 1, p => (bif zc2 .ge (Int32.ofNat p) (Int32.ofNat e) then (p, p) else (bif zc2 .ne (T p) (Int32.ofNat 32) then (p, p) else (yl_look T e n ((p + 1)))))
theorem yw_look {σ : Nat → Nat × (Nat → Int32)} {yy : (Nat → Nat → Int64) × Bool × Nat × Nat} {m : (Nat → Nat → Int32)} {b : Nat} {T : Nat → Int32} {e : Nat} {d : Nat} (hd : 1 ≤ d + 1) (hG : XR m T e) : ∀ (n : Nat) (p : Nat), e ≤ p + n → (p ≤ 400) → zEv σ (d + 1) 1009 0 [some (.ref 128)] [] (zS1, XP m p b, yy) (.inl none) (zS1, XP m ((yl_look T e n p).1) ((yl_look T e n p).2), yy) := by
  intro n
  induction n with
  | zero =>
    intro p hk hp
    refine zeP rfl rfl ?_
    refine zeXp rfl rfl ?_
    refine zeP rfl rfl ?_
    refine zeXe hG.2.1 rfl rfl ?_
    refine zeT2 rfl rfl (zcge (by omega) (by have := hG.2.2; omega) (by omega)) ?_
    refine zeP rfl rfl ?_
    refine zeP rfl rfl ?_
    refine zeXp rfl rfl ?_
    refine zeXbS rfl rfl ?_
    exact zeRe rfl rfl rfl rfl (by rfl) (by rfl)
  | succ n ih =>
    intro p hk hp
    refine zeP rfl rfl ?_
    refine zeXp rfl rfl ?_
    refine zeP rfl rfl ?_
    refine zeXe hG.2.1 rfl rfl ?_
    refine zeB2 rfl rfl (fun h1 => ?_) (fun h1 => ?_)
    · refine zeP rfl rfl ?_
      refine zeP rfl rfl ?_
      refine zeXp rfl rfl ?_
      refine zeXbS rfl rfl ?_
      exact zeRe rfl rfl rfl rfl (by simp only [yl_look, h1, cond_true, cond_false] <;> rfl) (by simp only [yl_look, h1, cond_true, cond_false] <;> rfl)
    · refine zeP rfl rfl ?_
      refine zeGR rfl rfl zS128 rfl rfl ?_
      refine zeP rfl rfl ?_
      refine zeXp rfl rfl ?_
      refine zeXB (k := p) hG rfl (by have := tge_f (a := p) (b := e) (by omega) (by have := hG.2.2; omega) (by assumption); have := hG.2.2; omega) ?_
      refine zeKn (c := 32) rfl rfl rfl ?_
      refine zeB2 rfl rfl (fun h2 => ?_) (fun h2 => ?_)
      · refine zeP rfl rfl ?_
        refine zeP rfl rfl ?_
        refine zeXp rfl rfl ?_
        refine zeXbS rfl rfl ?_
        exact zeRe rfl rfl rfl rfl (by simp only [yl_look, h1, h2, cond_true, cond_false] <;> rfl) (by simp only [yl_look, h1, h2, cond_true, cond_false] <;> rfl)
      · refine zeP rfl rfl ?_
        refine zeP rfl rfl ?_
        refine zeXp rfl rfl ?_
        refine zeKn (c := 1) rfl rfl rfl ?_
        refine zeAdd rfl ?_
        refine zeXpS rfl rfl ?_
        refine zeP rfl rfl ?_
        simp only [yl_look, h1, h2, cond_true, cond_false]
        exact ih  ((p + 1)) (by omega) (by have := tge_f (a := p) (b := e) (by omega) (by have := hG.2.2; omega) (by assumption); have := hG.2.2; omega)
noncomputable def lkB (T : Nat → Int32) (e p : Nat) : Nat := (yl_look T e (e - p) p).1
theorem yl_look_b (T : Nat → Int32) (e : Nat) : ∀ n p, (yl_look T e n p).2 = (yl_look T e n p).1 := by
  intro n
  induction n with
  | zero => intro p; rfl
  | succ n ih =>
    intro p
    unfold yl_look
    exact cnd4 (fun X : Nat × Nat => X.2 = X.1) (fun _ => rfl) (fun _ => cnd4 (fun X : Nat × Nat => X.2 = X.1) (fun _ => rfl) (fun _ => ih _))
theorem yl_look_le {T : Nat → Int32} {e : Nat} (he : e ≤ 400) : ∀ n p, p ≤ e → p ≤ (yl_look T e n p).1 ∧ (yl_look T e n p).1 ≤ e := by
  intro n
  induction n with
  | zero => intro p h; exact ⟨Nat.le_refl _, h⟩
  | succ n ih =>
    intro p h
    unfold yl_look
    refine cnd4 (fun X : Nat × Nat => p ≤ X.1 ∧ X.1 ≤ e) (fun _ => ⟨Nat.le_refl _, h⟩) (fun h1 => cnd4 (fun X : Nat × Nat => p ≤ X.1 ∧ X.1 ≤ e) (fun _ => ⟨Nat.le_refl _, h⟩) (fun _ => ?_))
    have := tge_f (by omega) (by omega) h1
    have := ih (p + 1) (by omega)
    exact ⟨by omega, this.2⟩
theorem lkB_le {T : Nat → Int32} {e p : Nat} (he : e ≤ 400) (h : p ≤ e) : p ≤ lkB T e p ∧ lkB T e p ≤ e := yl_look_le he _ p h
theorem yc_look {σ : Nat → Nat × (Nat → Int32)} {yy : (Nat → Nat → Int64) × Bool × Nat × Nat} {m : Nat → Nat → Int32} {p b : Nat} {T : Nat → Int32} {e : Nat} (hG : XR m T e) (hp : p ≤ e) : zF σ 1 1009 [.ref 128] (zS1, XP m p b, yy) (.inl none) (zS1, XP m (lkB T e p) (lkB T e p), yy) := by
  intro d hd
  obtain ⟨d, rfl⟩ : ∃ k, d = k + 1 := ⟨d - 1, by omega⟩
  have h := yw_look (σ := σ) (yy := yy) (m := m) (b := b) (T := T) (e := e) hd hG (e - p) p (by omega) (by have := hG.2.2; omega)
  rw [yl_look_b] at h
  exact h
noncomputable def y_skipSign (T : (Nat → Int32)) (e : Nat) (p : Nat) (c : Nat) : Int32 × Nat := (bif zc2 .ge (Int32.ofNat p) (Int32.ofNat e) then ((Int32.ofNat 0), p) else (bif zc2 .ne (T p) (Int32.ofNat c) then ((Int32.ofNat 0), p) else ((Int32.ofNat 1), (p + 1))))
theorem yp_skipSign {σ : Nat → Nat × (Nat → Int32)} {yy : (Nat → Nat → Int64) × Bool × Nat × Nat} {m : Nat → Nat → Int32} {p b : Nat} {T : Nat → Int32} {e : Nat} {c : Nat} {d : Nat} (hd : 1 ≤ d + 1) (hG : XR m T e) (hp : p ≤ 400) : zEv σ (d + 1) 1010 0 [some (.ref 128), some (.int (Int32.ofNat c))] [] (zS1, XP m p b, yy) (.inl (some (.int (y_skipSign T e p c).1))) (zS1, XP m ((y_skipSign T e p c).2) b, yy) := by
  refine zeP rfl rfl ?_
  refine zeXp rfl rfl ?_
  refine zeP rfl rfl ?_
  refine zeXe hG.2.1 rfl rfl ?_
  refine zeB2 rfl rfl (fun h1 => ?_) (fun h1 => ?_)
  · refine zeKn (c := 0) rfl rfl rfl ?_
    exact zeRe rfl rfl rfl rfl (by simp only [y_skipSign, h1, cond_true, cond_false] <;> rfl) (by simp only [y_skipSign, h1, cond_true, cond_false] <;> rfl)
  · refine zeP rfl rfl ?_
    refine zeGR rfl rfl zS128 rfl rfl ?_
    refine zeP rfl rfl ?_
    refine zeXp rfl rfl ?_
    refine zeXB (k := p) hG rfl (by have := tge_f (a := p) (b := e) (by omega) (by have := hG.2.2; omega) (by assumption); have := hG.2.2; omega) ?_
    refine zeP rfl rfl ?_
    refine zeB2 rfl rfl (fun h2 => ?_) (fun h2 => ?_)
    · refine zeKn (c := 0) rfl rfl rfl ?_
      exact zeRe rfl rfl rfl rfl (by simp only [y_skipSign, h1, h2, cond_true, cond_false] <;> rfl) (by simp only [y_skipSign, h1, h2, cond_true, cond_false] <;> rfl)
    · refine zeP rfl rfl ?_
      refine zeP rfl rfl ?_
      refine zeXp rfl rfl ?_
      refine zeKn (c := 1) rfl rfl rfl ?_
      refine zeAdd rfl ?_
      refine zeXpS rfl rfl ?_
      refine zeKn (c := 1) rfl rfl rfl ?_
      exact zeRe rfl rfl rfl rfl (by simp only [y_skipSign, h1, h2, cond_true, cond_false] <;> rfl) (by simp only [y_skipSign, h1, h2, cond_true, cond_false] <;> rfl)
theorem yc_skipSign {σ : Nat → Nat × (Nat → Int32)} {yy : (Nat → Nat → Int64) × Bool × Nat × Nat} {m : Nat → Nat → Int32} {p b : Nat} {T : Nat → Int32} {e : Nat} {c : Nat} (hG : XR m T e) (hp : p ≤ 400) : zF σ 1 1010 [.ref 128, .int (Int32.ofNat c)] (zS1, XP m p b, yy) (.inl (some (.int (y_skipSign T e p c).1))) (zS1, XP m ((y_skipSign T e p c).2) b, yy) := by
  intro d hd
  obtain ⟨d, rfl⟩ : ∃ k, d = k + 1 := ⟨d - 1, by omega⟩
  exact yp_skipSign hd hG hp
noncomputable def yl_name (T : (Nat → Int32)) (p : Nat) (b : Nat) (s : Nat) : Nat → Nat → Nat → Int32 → Nat → Int32
  | 0, nm, sm, df, k => (-1)
  | n + 1, nm, sm, df, k => (bif zc2 .eq (Int32.ofNat k) (Int32.ofNat (zby s).length) then (bif zc1 .ne df then (yl_name T p b s n ((nm + 1)) b ((Int32.ofNat 0)) ((k + 1))) else (bif zc2 .ne (Int32.ofNat sm) (Int32.ofNat p) then (yl_name T p b s n ((nm + 1)) b ((Int32.ofNat 0)) ((k + 1))) else (Int32.ofNat nm))) else (bif zc2 .ne ((zby s).getD k 0) (Int32.ofNat 32) then (bif zc2 .ge (Int32.ofNat sm) (Int32.ofNat p) then (yl_name T p b s n nm sm ((Int32.ofNat 1)) ((k + 1))) else (bif zc2 .ne (T sm) ((zby s).getD k 0) then (yl_name T p b s n nm sm ((Int32.ofNat 1)) ((k + 1))) else (yl_name T p b s n nm ((sm + 1)) df ((k + 1))))) else (bif zc1 .ne df then (yl_name T p b s n ((nm + 1)) b ((Int32.ofNat 0)) ((k + 1))) else (bif zc2 .ne (Int32.ofNat sm) (Int32.ofNat p) then (yl_name T p b s n ((nm + 1)) b ((Int32.ofNat 0)) ((k + 1))) else (Int32.ofNat nm)))))
theorem yw_name {σ : Nat → Nat × (Nat → Int32)} {yy : (Nat → Nat → Int64) × Bool × Nat × Nat} {m : (Nat → Nat → Int32)} {p : Nat} {b : Nat} {T : Nat → Int32} {e : Nat} {s : Nat} {d : Nat} (hd : 1 ≤ d + 1) (hG : XR m T e) (hq : s < 37) (hp : p ≤ 400) (hbp : b ≤ p) : ∀ (n : Nat) (nm : Nat) (sm : Nat) (df : Int32) (k : Nat), k + n = (zby s).length + 1 → (sm ≤ p) → zEv σ (d + 1) 1011 69 [some (.ref 128), some (.ref (1100 + s)), some (.int (Int32.ofNat nm)), some (.int (Int32.ofNat sm)), some (.int df), some (.int (Int32.ofNat k))] [] (zS1, XP m p b, yy) (.inl (some (.int (yl_name T p b s n nm sm df k)))) (zS1, XP m p b, yy) := by
  intro n
  induction n with
  | zero =>
    intro nm sm df k hk hsm
    refine zeP rfl rfl ?_
    refine zeP rfl rfl ?_
    refine zeLn hq rfl rfl rfl rfl rfl ?_
    refine zeT2 rfl rfl (tgt_t (by have := zby_len s hq; omega) (by have := zby_len s hq; omega) (by omega)) ?_
    refine zeK (v := -1) rfl rfl rfl ?_
    exact zeRe rfl rfl rfl rfl (by rfl) (by rfl)
  | succ n ih =>
    intro nm sm df k hk hsm
    refine zeP rfl rfl ?_
    refine zeP rfl rfl ?_
    refine zeLn hq rfl rfl rfl rfl rfl ?_
    refine zeF2 rfl rfl (tgt_f (by have := zby_len s hq; omega) (by have := zby_len s hq; omega) (by omega)) ?_
    refine zeP rfl rfl ?_
    refine zeP rfl rfl ?_
    refine zeLn hq rfl rfl rfl rfl rfl ?_
    refine zeB2 rfl rfl (fun h1 => ?_) (fun h1 => ?_)
    · refine zeP rfl rfl ?_
      refine zeB1 rfl rfl (fun h2 => ?_) (fun h2 => ?_)
      · refine zeInc rfl rfl ?_
        refine zeP rfl rfl ?_
        refine zeXb rfl rfl ?_
        refine zeP rfl rfl ?_
        refine zeKn (c := 0) rfl rfl rfl ?_
        refine zeP rfl rfl ?_
        refine zeP rfl rfl ?_
        refine zeInc rfl rfl ?_
        refine zeP rfl rfl ?_
        simp only [yl_name, h1, h2, cond_true, cond_false]
        exact ih ((nm + 1)) (b) ((Int32.ofNat 0)) ((k + 1))  (by omega) (by first | omega | (have := tge_f (a := sm) (b := p) (by omega) (by omega) (by assumption); omega))
      · refine zeP rfl rfl ?_
        refine zeP rfl rfl ?_
        refine zeXp rfl rfl ?_
        refine zeB2 rfl rfl (fun h3 => ?_) (fun h3 => ?_)
        · refine zeInc rfl rfl ?_
          refine zeP rfl rfl ?_
          refine zeXb rfl rfl ?_
          refine zeP rfl rfl ?_
          refine zeKn (c := 0) rfl rfl rfl ?_
          refine zeP rfl rfl ?_
          refine zeP rfl rfl ?_
          refine zeInc rfl rfl ?_
          refine zeP rfl rfl ?_
          simp only [yl_name, h1, h2, h3, cond_true, cond_false]
          exact ih ((nm + 1)) (b) ((Int32.ofNat 0)) ((k + 1))  (by omega) (by first | omega | (have := tge_f (a := sm) (b := p) (by omega) (by omega) (by assumption); omega))
        · refine zeP rfl rfl ?_
          exact zeRe rfl rfl rfl rfl (by simp only [yl_name, h1, h2, h3, cond_true, cond_false] <;> rfl) (by simp only [yl_name, h1, h2, h3, cond_true, cond_false] <;> rfl)
    · refine zeP rfl rfl ?_
      refine zeP rfl rfl ?_
      refine zeCh hq (by have := teqf_ne (a := k) (b := (zby s).length) (by assumption); omega) rfl rfl rfl rfl rfl ?_
      refine zeKn (c := 32) rfl rfl rfl ?_
      refine zeB2 rfl rfl (fun h4 => ?_) (fun h4 => ?_)
      · refine zeP rfl rfl ?_
        refine zeP rfl rfl ?_
        refine zeXp rfl rfl ?_
        refine zeB2 rfl rfl (fun h5 => ?_) (fun h5 => ?_)
        · refine zeKn (c := 1) rfl rfl rfl ?_
          refine zeP rfl rfl ?_
          refine zeInc rfl rfl ?_
          refine zeP rfl rfl ?_
          simp only [yl_name, h1, h4, h5, cond_true, cond_false]
          exact ih (nm) (sm) ((Int32.ofNat 1)) ((k + 1))  (by omega) (by first | omega | (have := tge_f (a := sm) (b := p) (by omega) (by omega) (by assumption); omega))
        · refine zeP rfl rfl ?_
          refine zeGR rfl rfl zS128 rfl rfl ?_
          refine zeP rfl rfl ?_
          refine zeXB (k := sm) hG rfl (by have := tge_f (a := sm) (b := p) (by omega) (by omega) (by assumption); omega) ?_
          refine zeP rfl rfl ?_
          refine zeP rfl rfl ?_
          refine zeCh hq (by have := teqf_ne (a := k) (b := (zby s).length) (by assumption); omega) rfl rfl rfl rfl rfl ?_
          refine zeB2 rfl rfl (fun h6 => ?_) (fun h6 => ?_)
          · refine zeKn (c := 1) rfl rfl rfl ?_
            refine zeP rfl rfl ?_
            refine zeInc rfl rfl ?_
            refine zeP rfl rfl ?_
            simp only [yl_name, h1, h4, h5, h6, cond_true, cond_false]
            exact ih (nm) (sm) ((Int32.ofNat 1)) ((k + 1))  (by omega) (by first | omega | (have := tge_f (a := sm) (b := p) (by omega) (by omega) (by assumption); omega))
          · refine zeInc rfl rfl ?_
            refine zeP rfl rfl ?_
            refine zeInc rfl rfl ?_
            refine zeP rfl rfl ?_
            simp only [yl_name, h1, h4, h5, h6, cond_true, cond_false]
            exact ih (nm) ((sm + 1)) (df) ((k + 1))  (by omega) (by first | omega | (have := tge_f (a := sm) (b := p) (by omega) (by omega) (by assumption); omega))
      · refine zeP rfl rfl ?_
        refine zeB1 rfl rfl (fun h7 => ?_) (fun h7 => ?_)
        · refine zeInc rfl rfl ?_
          refine zeP rfl rfl ?_
          refine zeXb rfl rfl ?_
          refine zeP rfl rfl ?_
          refine zeKn (c := 0) rfl rfl rfl ?_
          refine zeP rfl rfl ?_
          refine zeP rfl rfl ?_
          refine zeInc rfl rfl ?_
          refine zeP rfl rfl ?_
          simp only [yl_name, h1, h4, h7, cond_true, cond_false]
          exact ih ((nm + 1)) (b) ((Int32.ofNat 0)) ((k + 1))  (by omega) (by first | omega | (have := tge_f (a := sm) (b := p) (by omega) (by omega) (by assumption); omega))
        · refine zeP rfl rfl ?_
          refine zeP rfl rfl ?_
          refine zeXp rfl rfl ?_
          refine zeB2 rfl rfl (fun h8 => ?_) (fun h8 => ?_)
          · refine zeInc rfl rfl ?_
            refine zeP rfl rfl ?_
            refine zeXb rfl rfl ?_
            refine zeP rfl rfl ?_
            refine zeKn (c := 0) rfl rfl rfl ?_
            refine zeP rfl rfl ?_
            refine zeP rfl rfl ?_
            refine zeInc rfl rfl ?_
            refine zeP rfl rfl ?_
            simp only [yl_name, h1, h4, h7, h8, cond_true, cond_false]
            exact ih ((nm + 1)) (b) ((Int32.ofNat 0)) ((k + 1))  (by omega) (by first | omega | (have := tge_f (a := sm) (b := p) (by omega) (by omega) (by assumption); omega))
          · refine zeP rfl rfl ?_
            exact zeRe rfl rfl rfl rfl (by simp only [yl_name, h1, h4, h7, h8, cond_true, cond_false] <;> rfl) (by simp only [yl_name, h1, h4, h7, h8, cond_true, cond_false] <;> rfl)
noncomputable def yl_nameA (T : (Nat → Int32)) (e : Nat) (b : Nat) (s : Nat) : Nat → Nat → Int32 × Nat
  | 0, p => ((yl_name T p b s (((zby s).length + 1)) 0 b ((Int32.ofNat 0)) 0), p)
  | n + 1, p => (bif zc2 .ge (Int32.ofNat p) (Int32.ofNat e) then ((yl_name T p b s (((zby s).length + 1)) 0 b ((Int32.ofNat 0)) 0), p) else (bif zc2 .lt (T p) (Int32.ofNat 97) then ((yl_name T p b s (((zby s).length + 1)) 0 b ((Int32.ofNat 0)) 0), p) else (bif zc2 .gt (T p) (Int32.ofNat 122) then ((yl_name T p b s (((zby s).length + 1)) 0 b ((Int32.ofNat 0)) 0), p) else (yl_nameA T e b s n ((p + 1))))))
theorem yw_nameA {σ : Nat → Nat × (Nat → Int32)} {yy : (Nat → Nat → Int64) × Bool × Nat × Nat} {m : (Nat → Nat → Int32)} {b : Nat} {T : Nat → Int32} {e : Nat} {s : Nat} {d : Nat} (hd : 1 ≤ d + 1) (hG : XR m T e) (hq : s < 37) : ∀ (n : Nat) (p : Nat), e ≤ p + n → (p ≤ 400) → (b ≤ p) → zEv σ (d + 1) 1011 4 [some (.ref 128), some (.ref (1100 + s)), none, none, none, none] [] (zS1, XP m p b, yy) (.inl (some (.int (yl_nameA T e b s n p).1))) (zS1, XP m ((yl_nameA T e b s n p).2) b, yy) := by
  intro n
  induction n with
  | zero =>
    intro p hk hp hbp
    refine zeP rfl rfl ?_
    refine zeXp rfl rfl ?_
    refine zeP rfl rfl ?_
    refine zeXe hG.2.1 rfl rfl ?_
    refine zeT2 rfl rfl (zcge (by omega) (by have := hG.2.2; omega) (by omega)) ?_
    refine zeKn (c := 0) rfl rfl rfl ?_
    refine zeP rfl rfl ?_
    refine zeP rfl rfl ?_
    refine zeXb rfl rfl ?_
    refine zeP rfl rfl ?_
    refine zeKn (c := 0) rfl rfl rfl ?_
    refine zeP rfl rfl ?_
    refine zeKn (c := 0) rfl rfl rfl ?_
    refine zeP rfl rfl ?_
    simp only [yl_nameA, cond_true, cond_false]
    exact yw_name (s := s) (T := T) (e := e) (m := m) (p := p) (b := b) (by omega) hG hq hp hbp (((zby s).length + 1)) (0) (b) ((Int32.ofNat 0)) (0)  (by omega) hbp
  | succ n ih =>
    intro p hk hp hbp
    refine zeP rfl rfl ?_
    refine zeXp rfl rfl ?_
    refine zeP rfl rfl ?_
    refine zeXe hG.2.1 rfl rfl ?_
    refine zeB2 rfl rfl (fun h1 => ?_) (fun h1 => ?_)
    · refine zeKn (c := 0) rfl rfl rfl ?_
      refine zeP rfl rfl ?_
      refine zeP rfl rfl ?_
      refine zeXb rfl rfl ?_
      refine zeP rfl rfl ?_
      refine zeKn (c := 0) rfl rfl rfl ?_
      refine zeP rfl rfl ?_
      refine zeKn (c := 0) rfl rfl rfl ?_
      refine zeP rfl rfl ?_
      simp only [yl_nameA, h1, cond_true, cond_false]
      exact yw_name (s := s) (T := T) (e := e) (m := m) (p := p) (b := b) (by omega) hG hq hp hbp (((zby s).length + 1)) (0) (b) ((Int32.ofNat 0)) (0)  (by omega) hbp
    · refine zeP rfl rfl ?_
      refine zeGR rfl rfl zS128 rfl rfl ?_
      refine zeP rfl rfl ?_
      refine zeXp rfl rfl ?_
      refine zeXB (k := p) hG rfl (by have := tge_f (a := p) (b := e) (by omega) (by have := hG.2.2; omega) (by assumption); have := hG.2.2; omega) ?_
      refine zeKn (c := 97) rfl rfl rfl ?_
      refine zeB2 rfl rfl (fun h2 => ?_) (fun h2 => ?_)
      · refine zeKn (c := 0) rfl rfl rfl ?_
        refine zeP rfl rfl ?_
        refine zeP rfl rfl ?_
        refine zeXb rfl rfl ?_
        refine zeP rfl rfl ?_
        refine zeKn (c := 0) rfl rfl rfl ?_
        refine zeP rfl rfl ?_
        refine zeKn (c := 0) rfl rfl rfl ?_
        refine zeP rfl rfl ?_
        simp only [yl_nameA, h1, h2, cond_true, cond_false]
        exact yw_name (s := s) (T := T) (e := e) (m := m) (p := p) (b := b) (by omega) hG hq hp hbp (((zby s).length + 1)) (0) (b) ((Int32.ofNat 0)) (0)  (by omega) hbp
      · refine zeP rfl rfl ?_
        refine zeGR rfl rfl zS128 rfl rfl ?_
        refine zeP rfl rfl ?_
        refine zeXp rfl rfl ?_
        refine zeXB (k := p) hG rfl (by have := tge_f (a := p) (b := e) (by omega) (by have := hG.2.2; omega) (by assumption); have := hG.2.2; omega) ?_
        refine zeKn (c := 122) rfl rfl rfl ?_
        refine zeB2 rfl rfl (fun h3 => ?_) (fun h3 => ?_)
        · refine zeKn (c := 0) rfl rfl rfl ?_
          refine zeP rfl rfl ?_
          refine zeP rfl rfl ?_
          refine zeXb rfl rfl ?_
          refine zeP rfl rfl ?_
          refine zeKn (c := 0) rfl rfl rfl ?_
          refine zeP rfl rfl ?_
          refine zeKn (c := 0) rfl rfl rfl ?_
          refine zeP rfl rfl ?_
          simp only [yl_nameA, h1, h2, h3, cond_true, cond_false]
          exact yw_name (s := s) (T := T) (e := e) (m := m) (p := p) (b := b) (by omega) hG hq hp hbp (((zby s).length + 1)) (0) (b) ((Int32.ofNat 0)) (0)  (by omega) hbp
        · refine zeP rfl rfl ?_
          refine zeP rfl rfl ?_
          refine zeXp rfl rfl ?_
          refine zeKn (c := 1) rfl rfl rfl ?_
          refine zeAdd rfl ?_
          refine zeXpS rfl rfl ?_
          refine zeP rfl rfl ?_
          simp only [yl_nameA, h1, h2, h3, cond_true, cond_false]
          exact ih  ((p + 1)) (by omega) (by have := tge_f (a := p) (b := e) (by omega) (by have := hG.2.2; omega) (by assumption); have := hG.2.2; omega) (by omega)
noncomputable def y_readName (T : (Nat → Int32)) (e : Nat) (p : Nat) (s : Nat) : Int32 × Nat × Nat := ((yl_nameA T e ((lkB T e p)) s ((e - lkB T e p)) ((lkB T e p))).1, (yl_nameA T e ((lkB T e p)) s ((e - lkB T e p)) ((lkB T e p))).2, (lkB T e p))
theorem yp_readName {σ : Nat → Nat × (Nat → Int32)} {yy : (Nat → Nat → Int64) × Bool × Nat × Nat} {m : Nat → Nat → Int32} {p b : Nat} {T : Nat → Int32} {e : Nat} {s : Nat} {d : Nat} (hd : 2 ≤ d + 1) (hG : XR m T e) (hq : s < 37) (hp : p ≤ e) : zEv σ (d + 1) 1011 0 [some (.ref 128), some (.ref (1100 + s)), none, none, none, none] [] (zS1, XP m p b, yy) (.inl (some (.int (y_readName T e p s).1))) (zS1, XP m ((y_readName T e p s).2.1) ((y_readName T e p s).2.2), yy) := by
  refine zeP rfl rfl ?_
  refine zeCV rfl rfl rfl rfl zS128 rfl (yc_look (m := m) (p := p) (b := b) (T := T) (e := e) hG hp) (by omega) ?_
  dsimp only [Option.toList, List.cons_append, List.nil_append]
  simp only [y_readName, cond_true, cond_false]
  exact yw_nameA (s := s) (T := T) (e := e) (m := m) (b := (lkB T e p)) (by omega) hG hq ((e - lkB T e p))  ((lkB T e p)) (by omega) (by have := (lkB_le (T := T) hG.2.2 hp).2; have := hG.2.2; omega) (Nat.le_refl _)
theorem yc_readName {σ : Nat → Nat × (Nat → Int32)} {yy : (Nat → Nat → Int64) × Bool × Nat × Nat} {m : Nat → Nat → Int32} {p b : Nat} {T : Nat → Int32} {e : Nat} {s : Nat} (hG : XR m T e) (hq : s < 37) (hp : p ≤ e) : zF σ 2 1011 [.ref 128, .ref (1100 + s)] (zS1, XP m p b, yy) (.inl (some (.int (y_readName T e p s).1))) (zS1, XP m ((y_readName T e p s).2.1) ((y_readName T e p s).2.2), yy) := by
  intro d hd
  obtain ⟨d, rfl⟩ : ∃ k, d = k + 1 := ⟨d - 1, by omega⟩
  exact yp_readName hd hG hq hp
noncomputable def yl_num (T : (Nat → Int32)) (e : Nat) (b : Nat) (lo : Int32) (hi : Int32) : Nat → Int32 → Nat → Int32 × Nat
  | 0, v, p => (bif zc2 .lt (Int32.ofNat (p - b)) (Int32.ofNat 1) then ((-1), p) else (bif zc2 .gt (Int32.ofNat (p - b)) (Int32.ofNat 4) then ((-1), p) else (bif zc2 .lt v lo then ((-1), p) else (bif zc2 .gt v hi then ((-1), p) else (v, p)))))
  | n + 1, v, p => (bif zc2 .ge (Int32.ofNat p) (Int32.ofNat e) then (bif zc2 .lt (Int32.ofNat (p - b)) (Int32.ofNat 1) then ((-1), p) else (bif zc2 .gt (Int32.ofNat (p - b)) (Int32.ofNat 4) then ((-1), p) else (bif zc2 .lt v lo then ((-1), p) else (bif zc2 .gt v hi then ((-1), p) else (v, p))))) else (bif zc2 .lt (T p) (Int32.ofNat 48) then (bif zc2 .lt (Int32.ofNat (p - b)) (Int32.ofNat 1) then ((-1), p) else (bif zc2 .gt (Int32.ofNat (p - b)) (Int32.ofNat 4) then ((-1), p) else (bif zc2 .lt v lo then ((-1), p) else (bif zc2 .gt v hi then ((-1), p) else (v, p))))) else (bif zc2 .gt (T p) (Int32.ofNat 57) then (bif zc2 .lt (Int32.ofNat (p - b)) (Int32.ofNat 1) then ((-1), p) else (bif zc2 .gt (Int32.ofNat (p - b)) (Int32.ofNat 4) then ((-1), p) else (bif zc2 .lt v lo then ((-1), p) else (bif zc2 .gt v hi then ((-1), p) else (v, p))))) else (bif zc2 .ge (Int32.ofNat (p - b)) (Int32.ofNat 4) then (yl_num T e b lo hi n v ((p + 1))) else (yl_num T e b lo hi n (((v * (Int32.ofNat 10)) + ((T p) - (Int32.ofNat 48)))) ((p + 1)))))))
theorem yw_num {σ : Nat → Nat × (Nat → Int32)} {yy : (Nat → Nat → Int64) × Bool × Nat × Nat} {m : (Nat → Nat → Int32)} {b : Nat} {T : Nat → Int32} {e : Nat} {lo : Int32} {hi : Int32} {d : Nat} (hd : 1 ≤ d + 1) (hG : XR m T e) : ∀ (n : Nat) (v : Int32) (p : Nat), e ≤ p + n → (p ≤ 400) → (b ≤ p) → zEv σ (d + 1) 1012 6 [some (.ref 128), some (.int lo), some (.int hi), some (.int v), none, none] [] (zS1, XP m p b, yy) (.inl (some (.int (yl_num T e b lo hi n v p).1))) (zS1, XP m ((yl_num T e b lo hi n v p).2) b, yy) := by
  intro n
  induction n with
  | zero =>
    intro v p hk hp hbp
    refine zeP rfl rfl ?_
    refine zeXp rfl rfl ?_
    refine zeP rfl rfl ?_
    refine zeXe hG.2.1 rfl rfl ?_
    refine zeT2 rfl rfl (zcge (by omega) (by have := hG.2.2; omega) (by omega)) ?_
    refine zeP rfl rfl ?_
    refine zeXp rfl rfl ?_
    refine zeP rfl rfl ?_
    refine zeXb rfl rfl ?_
    refine zeSub rfl hbp ?_
    refine zeP rfl rfl ?_
    refine zeP rfl rfl ?_
    refine zeKn (c := 1) rfl rfl rfl ?_
    refine zeB2 rfl rfl (fun h1 => ?_) (fun h1 => ?_)
    · refine zeKn (c := 0) rfl rfl rfl ?_
      refine zeP rfl rfl ?_
      refine zeP rfl rfl ?_
      refine zeT1 rfl rfl (show zc1 .eq (Int32.ofNat 0) = true by decide) ?_
      refine zeK (v := -1) rfl rfl rfl ?_
      exact zeRe rfl rfl rfl rfl (by simp only [yl_num, h1, cond_true, cond_false] <;> rfl) (by simp only [yl_num, h1, cond_true, cond_false] <;> rfl)
    · refine zeP rfl rfl ?_
      refine zeKn (c := 4) rfl rfl rfl ?_
      refine zeB2 rfl rfl (fun h2 => ?_) (fun h2 => ?_)
      · refine zeKn (c := 0) rfl rfl rfl ?_
        refine zeP rfl rfl ?_
        refine zeP rfl rfl ?_
        refine zeT1 rfl rfl (show zc1 .eq (Int32.ofNat 0) = true by decide) ?_
        refine zeK (v := -1) rfl rfl rfl ?_
        exact zeRe rfl rfl rfl rfl (by simp only [yl_num, h1, h2, cond_true, cond_false] <;> rfl) (by simp only [yl_num, h1, h2, cond_true, cond_false] <;> rfl)
      · refine zeP rfl rfl ?_
        refine zeP rfl rfl ?_
        refine zeB2 rfl rfl (fun h3 => ?_) (fun h3 => ?_)
        · refine zeKn (c := 0) rfl rfl rfl ?_
          refine zeP rfl rfl ?_
          refine zeP rfl rfl ?_
          refine zeT1 rfl rfl (show zc1 .eq (Int32.ofNat 0) = true by decide) ?_
          refine zeK (v := -1) rfl rfl rfl ?_
          exact zeRe rfl rfl rfl rfl (by simp only [yl_num, h1, h2, h3, cond_true, cond_false] <;> rfl) (by simp only [yl_num, h1, h2, h3, cond_true, cond_false] <;> rfl)
        · refine zeP rfl rfl ?_
          refine zeP rfl rfl ?_
          refine zeB2 rfl rfl (fun h4 => ?_) (fun h4 => ?_)
          · refine zeKn (c := 0) rfl rfl rfl ?_
            refine zeP rfl rfl ?_
            refine zeP rfl rfl ?_
            refine zeT1 rfl rfl (show zc1 .eq (Int32.ofNat 0) = true by decide) ?_
            refine zeK (v := -1) rfl rfl rfl ?_
            exact zeRe rfl rfl rfl rfl (by simp only [yl_num, h1, h2, h3, h4, cond_true, cond_false] <;> rfl) (by simp only [yl_num, h1, h2, h3, h4, cond_true, cond_false] <;> rfl)
          · refine zeKn (c := 1) rfl rfl rfl ?_
            refine zeP rfl rfl ?_
            refine zeP rfl rfl ?_
            refine zeP rfl rfl ?_
            refine zeF1 rfl rfl (show zc1 .eq (Int32.ofNat 1) = false by decide) ?_
            refine zeP rfl rfl ?_
            refine zeP rfl rfl ?_
            exact zeRe rfl rfl rfl rfl (by simp only [yl_num, h1, h2, h3, h4, cond_true, cond_false] <;> rfl) (by simp only [yl_num, h1, h2, h3, h4, cond_true, cond_false] <;> rfl)
  | succ n ih =>
    intro v p hk hp hbp
    refine zeP rfl rfl ?_
    refine zeXp rfl rfl ?_
    refine zeP rfl rfl ?_
    refine zeXe hG.2.1 rfl rfl ?_
    refine zeB2 rfl rfl (fun h1 => ?_) (fun h1 => ?_)
    · refine zeP rfl rfl ?_
      refine zeXp rfl rfl ?_
      refine zeP rfl rfl ?_
      refine zeXb rfl rfl ?_
      refine zeSub rfl hbp ?_
      refine zeP rfl rfl ?_
      refine zeP rfl rfl ?_
      refine zeKn (c := 1) rfl rfl rfl ?_
      refine zeB2 rfl rfl (fun h2 => ?_) (fun h2 => ?_)
      · refine zeKn (c := 0) rfl rfl rfl ?_
        refine zeP rfl rfl ?_
        refine zeP rfl rfl ?_
        refine zeT1 rfl rfl (show zc1 .eq (Int32.ofNat 0) = true by decide) ?_
        refine zeK (v := -1) rfl rfl rfl ?_
        exact zeRe rfl rfl rfl rfl (by simp only [yl_num, h1, h2, cond_true, cond_false] <;> rfl) (by simp only [yl_num, h1, h2, cond_true, cond_false] <;> rfl)
      · refine zeP rfl rfl ?_
        refine zeKn (c := 4) rfl rfl rfl ?_
        refine zeB2 rfl rfl (fun h3 => ?_) (fun h3 => ?_)
        · refine zeKn (c := 0) rfl rfl rfl ?_
          refine zeP rfl rfl ?_
          refine zeP rfl rfl ?_
          refine zeT1 rfl rfl (show zc1 .eq (Int32.ofNat 0) = true by decide) ?_
          refine zeK (v := -1) rfl rfl rfl ?_
          exact zeRe rfl rfl rfl rfl (by simp only [yl_num, h1, h2, h3, cond_true, cond_false] <;> rfl) (by simp only [yl_num, h1, h2, h3, cond_true, cond_false] <;> rfl)
        · refine zeP rfl rfl ?_
          refine zeP rfl rfl ?_
          refine zeB2 rfl rfl (fun h4 => ?_) (fun h4 => ?_)
          · refine zeKn (c := 0) rfl rfl rfl ?_
            refine zeP rfl rfl ?_
            refine zeP rfl rfl ?_
            refine zeT1 rfl rfl (show zc1 .eq (Int32.ofNat 0) = true by decide) ?_
            refine zeK (v := -1) rfl rfl rfl ?_
            exact zeRe rfl rfl rfl rfl (by simp only [yl_num, h1, h2, h3, h4, cond_true, cond_false] <;> rfl) (by simp only [yl_num, h1, h2, h3, h4, cond_true, cond_false] <;> rfl)
          · refine zeP rfl rfl ?_
            refine zeP rfl rfl ?_
            refine zeB2 rfl rfl (fun h5 => ?_) (fun h5 => ?_)
            · refine zeKn (c := 0) rfl rfl rfl ?_
              refine zeP rfl rfl ?_
              refine zeP rfl rfl ?_
              refine zeT1 rfl rfl (show zc1 .eq (Int32.ofNat 0) = true by decide) ?_
              refine zeK (v := -1) rfl rfl rfl ?_
              exact zeRe rfl rfl rfl rfl (by simp only [yl_num, h1, h2, h3, h4, h5, cond_true, cond_false] <;> rfl) (by simp only [yl_num, h1, h2, h3, h4, h5, cond_true, cond_false] <;> rfl)
            · refine zeKn (c := 1) rfl rfl rfl ?_
              refine zeP rfl rfl ?_
              refine zeP rfl rfl ?_
              refine zeP rfl rfl ?_
              refine zeF1 rfl rfl (show zc1 .eq (Int32.ofNat 1) = false by decide) ?_
              refine zeP rfl rfl ?_
              refine zeP rfl rfl ?_
              exact zeRe rfl rfl rfl rfl (by simp only [yl_num, h1, h2, h3, h4, h5, cond_true, cond_false] <;> rfl) (by simp only [yl_num, h1, h2, h3, h4, h5, cond_true, cond_false] <;> rfl)
    · refine zeP rfl rfl ?_
      refine zeGR rfl rfl zS128 rfl rfl ?_
      refine zeP rfl rfl ?_
      refine zeXp rfl rfl ?_
      refine zeXB (k := p) hG rfl (by have := tge_f (a := p) (b := e) (by omega) (by have := hG.2.2; omega) (by assumption); have := hG.2.2; omega) ?_
      refine zeKn (c := 48) rfl rfl rfl ?_
      refine zeB2 rfl rfl (fun h6 => ?_) (fun h6 => ?_)
      · refine zeP rfl rfl ?_
        refine zeXp rfl rfl ?_
        refine zeP rfl rfl ?_
        refine zeXb rfl rfl ?_
        refine zeSub rfl hbp ?_
        refine zeP rfl rfl ?_
        refine zeP rfl rfl ?_
        refine zeKn (c := 1) rfl rfl rfl ?_
        refine zeB2 rfl rfl (fun h7 => ?_) (fun h7 => ?_)
        · refine zeKn (c := 0) rfl rfl rfl ?_
          refine zeP rfl rfl ?_
          refine zeP rfl rfl ?_
          refine zeT1 rfl rfl (show zc1 .eq (Int32.ofNat 0) = true by decide) ?_
          refine zeK (v := -1) rfl rfl rfl ?_
          exact zeRe rfl rfl rfl rfl (by simp only [yl_num, h1, h6, h7, cond_true, cond_false] <;> rfl) (by simp only [yl_num, h1, h6, h7, cond_true, cond_false] <;> rfl)
        · refine zeP rfl rfl ?_
          refine zeKn (c := 4) rfl rfl rfl ?_
          refine zeB2 rfl rfl (fun h8 => ?_) (fun h8 => ?_)
          · refine zeKn (c := 0) rfl rfl rfl ?_
            refine zeP rfl rfl ?_
            refine zeP rfl rfl ?_
            refine zeT1 rfl rfl (show zc1 .eq (Int32.ofNat 0) = true by decide) ?_
            refine zeK (v := -1) rfl rfl rfl ?_
            exact zeRe rfl rfl rfl rfl (by simp only [yl_num, h1, h6, h7, h8, cond_true, cond_false] <;> rfl) (by simp only [yl_num, h1, h6, h7, h8, cond_true, cond_false] <;> rfl)
          · refine zeP rfl rfl ?_
            refine zeP rfl rfl ?_
            refine zeB2 rfl rfl (fun h9 => ?_) (fun h9 => ?_)
            · refine zeKn (c := 0) rfl rfl rfl ?_
              refine zeP rfl rfl ?_
              refine zeP rfl rfl ?_
              refine zeT1 rfl rfl (show zc1 .eq (Int32.ofNat 0) = true by decide) ?_
              refine zeK (v := -1) rfl rfl rfl ?_
              exact zeRe rfl rfl rfl rfl (by simp only [yl_num, h1, h6, h7, h8, h9, cond_true, cond_false] <;> rfl) (by simp only [yl_num, h1, h6, h7, h8, h9, cond_true, cond_false] <;> rfl)
            · refine zeP rfl rfl ?_
              refine zeP rfl rfl ?_
              refine zeB2 rfl rfl (fun h10 => ?_) (fun h10 => ?_)
              · refine zeKn (c := 0) rfl rfl rfl ?_
                refine zeP rfl rfl ?_
                refine zeP rfl rfl ?_
                refine zeT1 rfl rfl (show zc1 .eq (Int32.ofNat 0) = true by decide) ?_
                refine zeK (v := -1) rfl rfl rfl ?_
                exact zeRe rfl rfl rfl rfl (by simp only [yl_num, h1, h6, h7, h8, h9, h10, cond_true, cond_false] <;> rfl) (by simp only [yl_num, h1, h6, h7, h8, h9, h10, cond_true, cond_false] <;> rfl)
              · refine zeKn (c := 1) rfl rfl rfl ?_
                refine zeP rfl rfl ?_
                refine zeP rfl rfl ?_
                refine zeP rfl rfl ?_
                refine zeF1 rfl rfl (show zc1 .eq (Int32.ofNat 1) = false by decide) ?_
                refine zeP rfl rfl ?_
                refine zeP rfl rfl ?_
                exact zeRe rfl rfl rfl rfl (by simp only [yl_num, h1, h6, h7, h8, h9, h10, cond_true, cond_false] <;> rfl) (by simp only [yl_num, h1, h6, h7, h8, h9, h10, cond_true, cond_false] <;> rfl)
      · refine zeP rfl rfl ?_
        refine zeGR rfl rfl zS128 rfl rfl ?_
        refine zeP rfl rfl ?_
        refine zeXp rfl rfl ?_
        refine zeXB (k := p) hG rfl (by have := tge_f (a := p) (b := e) (by omega) (by have := hG.2.2; omega) (by assumption); have := hG.2.2; omega) ?_
        refine zeKn (c := 57) rfl rfl rfl ?_
        refine zeB2 rfl rfl (fun h11 => ?_) (fun h11 => ?_)
        · refine zeP rfl rfl ?_
          refine zeXp rfl rfl ?_
          refine zeP rfl rfl ?_
          refine zeXb rfl rfl ?_
          refine zeSub rfl hbp ?_
          refine zeP rfl rfl ?_
          refine zeP rfl rfl ?_
          refine zeKn (c := 1) rfl rfl rfl ?_
          refine zeB2 rfl rfl (fun h12 => ?_) (fun h12 => ?_)
          · refine zeKn (c := 0) rfl rfl rfl ?_
            refine zeP rfl rfl ?_
            refine zeP rfl rfl ?_
            refine zeT1 rfl rfl (show zc1 .eq (Int32.ofNat 0) = true by decide) ?_
            refine zeK (v := -1) rfl rfl rfl ?_
            exact zeRe rfl rfl rfl rfl (by simp only [yl_num, h1, h6, h11, h12, cond_true, cond_false] <;> rfl) (by simp only [yl_num, h1, h6, h11, h12, cond_true, cond_false] <;> rfl)
          · refine zeP rfl rfl ?_
            refine zeKn (c := 4) rfl rfl rfl ?_
            refine zeB2 rfl rfl (fun h13 => ?_) (fun h13 => ?_)
            · refine zeKn (c := 0) rfl rfl rfl ?_
              refine zeP rfl rfl ?_
              refine zeP rfl rfl ?_
              refine zeT1 rfl rfl (show zc1 .eq (Int32.ofNat 0) = true by decide) ?_
              refine zeK (v := -1) rfl rfl rfl ?_
              exact zeRe rfl rfl rfl rfl (by simp only [yl_num, h1, h6, h11, h12, h13, cond_true, cond_false] <;> rfl) (by simp only [yl_num, h1, h6, h11, h12, h13, cond_true, cond_false] <;> rfl)
            · refine zeP rfl rfl ?_
              refine zeP rfl rfl ?_
              refine zeB2 rfl rfl (fun h14 => ?_) (fun h14 => ?_)
              · refine zeKn (c := 0) rfl rfl rfl ?_
                refine zeP rfl rfl ?_
                refine zeP rfl rfl ?_
                refine zeT1 rfl rfl (show zc1 .eq (Int32.ofNat 0) = true by decide) ?_
                refine zeK (v := -1) rfl rfl rfl ?_
                exact zeRe rfl rfl rfl rfl (by simp only [yl_num, h1, h6, h11, h12, h13, h14, cond_true, cond_false] <;> rfl) (by simp only [yl_num, h1, h6, h11, h12, h13, h14, cond_true, cond_false] <;> rfl)
              · refine zeP rfl rfl ?_
                refine zeP rfl rfl ?_
                refine zeB2 rfl rfl (fun h15 => ?_) (fun h15 => ?_)
                · refine zeKn (c := 0) rfl rfl rfl ?_
                  refine zeP rfl rfl ?_
                  refine zeP rfl rfl ?_
                  refine zeT1 rfl rfl (show zc1 .eq (Int32.ofNat 0) = true by decide) ?_
                  refine zeK (v := -1) rfl rfl rfl ?_
                  exact zeRe rfl rfl rfl rfl (by simp only [yl_num, h1, h6, h11, h12, h13, h14, h15, cond_true, cond_false] <;> rfl) (by simp only [yl_num, h1, h6, h11, h12, h13, h14, h15, cond_true, cond_false] <;> rfl)
                · refine zeKn (c := 1) rfl rfl rfl ?_
                  refine zeP rfl rfl ?_
                  refine zeP rfl rfl ?_
                  refine zeP rfl rfl ?_
                  refine zeF1 rfl rfl (show zc1 .eq (Int32.ofNat 1) = false by decide) ?_
                  refine zeP rfl rfl ?_
                  refine zeP rfl rfl ?_
                  exact zeRe rfl rfl rfl rfl (by simp only [yl_num, h1, h6, h11, h12, h13, h14, h15, cond_true, cond_false] <;> rfl) (by simp only [yl_num, h1, h6, h11, h12, h13, h14, h15, cond_true, cond_false] <;> rfl)
        · refine zeP rfl rfl ?_
          refine zeXp rfl rfl ?_
          refine zeP rfl rfl ?_
          refine zeXb rfl rfl ?_
          refine zeSub rfl hbp ?_
          refine zeKn (c := 4) rfl rfl rfl ?_
          refine zeB2 rfl rfl (fun h16 => ?_) (fun h16 => ?_)
          · refine zeP rfl rfl ?_
            refine zeP rfl rfl ?_
            refine zeXp rfl rfl ?_
            refine zeKn (c := 1) rfl rfl rfl ?_
            refine zeAdd rfl ?_
            refine zeXpS rfl rfl ?_
            refine zeP rfl rfl ?_
            simp only [yl_num, h1, h6, h11, h16, cond_true, cond_false]
            exact ih (v) ((p + 1)) (by omega) (by have := tge_f (a := p) (b := e) (by omega) (by have := hG.2.2; omega) (by assumption); have := hG.2.2; omega) (by omega)
          · refine zeP rfl rfl ?_
            refine zeKn (c := 10) rfl rfl rfl ?_
            refine zeP rfl rfl ?_
            refine zeP rfl rfl ?_
            refine zeGR rfl rfl zS128 rfl rfl ?_
            refine zeP rfl rfl ?_
            refine zeXp rfl rfl ?_
            refine zeXB (k := p) hG rfl (by have := tge_f (a := p) (b := e) (by omega) (by have := hG.2.2; omega) (by assumption); have := hG.2.2; omega) ?_
            refine zeKn (c := 48) rfl rfl rfl ?_
            refine zeP rfl rfl ?_
            refine zeP rfl rfl ?_
            refine zeP rfl rfl ?_
            refine zeP rfl rfl ?_
            refine zeP rfl rfl ?_
            refine zeXp rfl rfl ?_
            refine zeKn (c := 1) rfl rfl rfl ?_
            refine zeAdd rfl ?_
            refine zeXpS rfl rfl ?_
            refine zeP rfl rfl ?_
            simp only [yl_num, h1, h6, h11, h16, cond_true, cond_false]
            exact ih (((v * (Int32.ofNat 10)) + ((T p) - (Int32.ofNat 48)))) ((p + 1)) (by omega) (by have := tge_f (a := p) (b := e) (by omega) (by have := hG.2.2; omega) (by assumption); have := hG.2.2; omega) (by omega)
noncomputable def y_readNumber (T : (Nat → Int32)) (e : Nat) (p : Nat) (lo : Int32) (hi : Int32) : Int32 × Nat × Nat := ((yl_num T e ((lkB T e p)) lo hi ((e - lkB T e p)) ((Int32.ofNat 0)) ((lkB T e p))).1, (yl_num T e ((lkB T e p)) lo hi ((e - lkB T e p)) ((Int32.ofNat 0)) ((lkB T e p))).2, (lkB T e p))
theorem yp_readNumber {σ : Nat → Nat × (Nat → Int32)} {yy : (Nat → Nat → Int64) × Bool × Nat × Nat} {m : Nat → Nat → Int32} {p b : Nat} {T : Nat → Int32} {e : Nat} {lo : Int32} {hi : Int32} {d : Nat} (hd : 2 ≤ d + 1) (hG : XR m T e) (hp : p ≤ e) : zEv σ (d + 1) 1012 0 [some (.ref 128), some (.int lo), some (.int hi), none, none, none] [] (zS1, XP m p b, yy) (.inl (some (.int (y_readNumber T e p lo hi).1))) (zS1, XP m ((y_readNumber T e p lo hi).2.1) ((y_readNumber T e p lo hi).2.2), yy) := by
  refine zeP rfl rfl ?_
  refine zeCV rfl rfl rfl rfl zS128 rfl (yc_look (m := m) (p := p) (b := b) (T := T) (e := e) hG hp) (by omega) ?_
  dsimp only [Option.toList, List.cons_append, List.nil_append]
  refine zeKn (c := 0) rfl rfl rfl ?_
  refine zeP rfl rfl ?_
  simp only [y_readNumber, cond_true, cond_false]
  exact yw_num (lo := lo) (hi := hi) (T := T) (e := e) (m := m) (b := (lkB T e p)) (by omega) hG ((e - lkB T e p)) ((Int32.ofNat 0)) ((lkB T e p)) (by omega) (by have := (lkB_le (T := T) hG.2.2 hp).2; have := hG.2.2; omega) (Nat.le_refl _)
theorem yc_readNumber {σ : Nat → Nat × (Nat → Int32)} {yy : (Nat → Nat → Int64) × Bool × Nat × Nat} {m : Nat → Nat → Int32} {p b : Nat} {T : Nat → Int32} {e : Nat} {lo : Int32} {hi : Int32} (hG : XR m T e) (hp : p ≤ e) : zF σ 2 1012 [.ref 128, .int lo, .int hi] (zS1, XP m p b, yy) (.inl (some (.int (y_readNumber T e p lo hi).1))) (zS1, XP m ((y_readNumber T e p lo hi).2.1) ((y_readNumber T e p lo hi).2.2), yy) := by
  intro d hd
  obtain ⟨d, rfl⟩ : ∃ k, d = k + 1 := ⟨d - 1, by omega⟩
  exact yp_readNumber hd hG hp
end
section
/-- the class's other methods, at the Reader's memory -/
theorem yc_lockAt {σ : Nat → Nat × (Nat → Int32)} {yy : (Nat → Nat → Int64) × Bool × Nat × Nat} {m : Nat → Nat → Int32} {p b l : Nat} (hl : l < 4) : zF σ 1 603 [.ref 43, .int (Int32.ofNat l)] (zS1, XP m p b, yy) (.inl (some (.ref (43 + 5 + l)))) (zS1, XP m p b, yy) := xc_lockAt (m := XP m p b) (b := 43) bb43 hl
theorem yc_strandAt {σ : Nat → Nat × (Nat → Int32)} {yy : (Nat → Nat → Int64) × Bool × Nat × Nat} {m : Nat → Nat → Int32} {p b t : Nat} (ht : t < 4) : zF σ 1 602 [.ref 43, .int (Int32.ofNat t)] (zS1, XP m p b, yy) (.inl (some (.ref (43 + 10 + 7 * t)))) (zS1, XP m p b, yy) := xc_strandAt (m := XP m p b) (b := 43) bb43 ht
theorem XP_wo {m : Nat → Nat → Int32} {p b : Nat} {l w : Int32} : ∀ n k, k + n = 4 → xl_wordOther (XP m p b) 43 l w n k = xl_wordOther m 43 l w n k := by
  intro n
  induction n with
  | zero => intro k _; rfl
  | succ n ih =>
    intro k hk
    unfold xl_wordOther
    rw [XP_ne (by omega), ih (k + 1) (by omega)]
theorem yc_isWordOfOther {σ : Nat → Nat × (Nat → Int32)} {yy : (Nat → Nat → Int64) × Bool × Nat × Nat} {m : Nat → Nat → Int32} {p b : Nat} {l w : Int32} : zF σ 2 631 [.ref 43, .int l, .int w] (zS1, XP m p b, yy) (.inl (some (.int (x_isWordOfOther m 43 l w)))) (zS1, XP m p b, yy) := by
  have h := xc_isWordOfOther (σ := σ) (yy := yy) (m := XP m p b) (b := 43) (l := l) (w := w) bb43
  have e : x_isWordOfOther (XP m p b) 43 l w = x_isWordOfOther m 43 l w := XP_wo 4 0 rfl
  rw [e] at h
  exact h
theorem XP_close {m : Nat → Nat → Int32} {p b t : Nat} (ht : t < 4) : x_close (XP m p b) 43 t = XP (x_close m 43 t) p b := by
  unfold x_close
  rw [XP_put _ _ _ _ _ (by omega), XP_put _ _ _ _ _ (by omega), XP_put _ _ _ _ _ (by omega), XP_put _ _ _ _ _ (by omega), XP_put _ _ _ _ _ (by omega)]
theorem XP_clearL {p b t : Nat} (ht : t < 4) : ∀ n k (m : Nat → Nat → Int32), xl_clear 43 t n k (XP m p b) = XP (xl_clear 43 t n k m) p b := by
  intro n
  induction n with
  | zero => intro k m; exact XP_close ht
  | succ n ih =>
    intro k m
    unfold xl_clear
    rw [XP_put _ _ _ _ _ (by omega), ih]
theorem XP_clear {m : Nat → Nat → Int32} {p b t : Nat} (ht : t < 4) : x_clear (XP m p b) 43 t = XP (x_clear m 43 t) p b := by
  unfold x_clear
  rw [XP_put _ _ _ _ _ (by omega), XP_put _ _ _ _ _ (by omega), XP_put _ _ _ _ _ (by omega), XP_put _ _ _ _ _ (by omega), XP_put _ _ _ _ _ (by omega), XP_put _ _ _ _ _ (by omega), XP_clearL ht]
theorem yc_clear {σ : Nat → Nat × (Nat → Int32)} {yy : (Nat → Nat → Int64) × Bool × Nat × Nat} {m : Nat → Nat → Int32} {p b t : Nat} (ht : t < 4) : zF σ 2 1202 [.ref (43 + 10 + 7 * t)] (zS1, XP m p b, yy) (.inl none) (zS1, XP (x_clear m 43 t) p b, yy) := by
  have h := xc_clear (σ := σ) (yy := yy) (m := XP m p b) (b := 43) (t := t) bb43 ht
  rw [XP_clear ht] at h
  exact h
theorem XP_ad {m : Nat → Nat → Int32} {p b t : Nat} {x y : Int32} (ht : t < 4) : x_addDeed (XP m p b) 43 t x y = XP (x_addDeed m 43 t x y) p b := by
  have e : mv (XP m p b) (43 + 10 + 7 * t) 2 = mv m (43 + 10 + 7 * t) 2 := by
    unfold mv
    rw [XP_ne (by omega)]
  unfold x_addDeed
  rw [e]
  cases zc2 .ge (Int32.ofNat (mv m (43 + 10 + 7 * t) 2)) (Int32.ofNat 24) with
  | true => rfl
  | false =>
    rw [cond_false, cond_false, XP_put _ _ _ _ _ (by omega), XP_put _ _ _ _ _ (by omega), XP_put _ _ _ _ _ (by omega)]
theorem yc_addDeed {σ : Nat → Nat × (Nat → Int32)} {yy : (Nat → Nat → Int64) × Bool × Nat × Nat} {m : Nat → Nat → Int32} {p b t : Nat} {x y : Int32} (ht : t < 4) (h2 : okm m (43 + 10 + 7 * t) 2 24) : zF σ 1 1203 [.ref (43 + 10 + 7 * t), .int x, .int y] (zS1, XP m p b, yy) (.inl none) (zS1, XP (x_addDeed m 43 t x y) p b, yy) := by
  have h2' : okm (XP m p b) (43 + 10 + 7 * t) 2 24 := by
    unfold okm mv at *
    rw [XP_ne (by omega)]
    exact h2
  have h := xc_addDeed (σ := σ) (yy := yy) (m := XP m p b) (b := 43) (t := t) (x := x) (y := y) bb43 ht h2'.1 h2'.2
  rw [XP_ad ht] at h
  exact h
theorem yl_num_le {T : Nat → Int32} {e b : Nat} {lo hi : Int32} (he : e ≤ 400) : ∀ n v p, p ≤ e → p ≤ (yl_num T e b lo hi n v p).2 ∧ (yl_num T e b lo hi n v p).2 ≤ e := by
  have fin : ∀ (c1 c2 c3 c4 : Bool) (v : Int32) (p : Nat), p ≤ e → p ≤ (bif c1 then ((-1 : Int32), p) else bif c2 then (-1, p) else bif c3 then (-1, p) else bif c4 then (-1, p) else (v, p)).2 ∧ (bif c1 then ((-1 : Int32), p) else bif c2 then (-1, p) else bif c3 then (-1, p) else bif c4 then (-1, p) else (v, p)).2 ≤ e := by
    intro c1 c2 c3 c4 v p h
    cases c1 <;> cases c2 <;> cases c3 <;> cases c4 <;> exact ⟨Nat.le_refl _, h⟩
  intro n
  induction n with
  | zero => intro v p h; unfold yl_num; exact fin _ _ _ _ v p h
  | succ n ih =>
    intro v p h
    unfold yl_num
    refine cnd4 (fun X : Int32 × Nat => p ≤ X.2 ∧ X.2 ≤ e) (fun _ => fin _ _ _ _ v p h) (fun h1 => cnd4 (fun X : Int32 × Nat => p ≤ X.2 ∧ X.2 ≤ e) (fun _ => fin _ _ _ _ v p h) (fun _ => cnd4 (fun X : Int32 × Nat => p ≤ X.2 ∧ X.2 ≤ e) (fun _ => fin _ _ _ _ v p h) (fun _ => ?_)))
    have := tge_f (by omega) (by omega) h1
    have k : ∀ v, p ≤ (yl_num T e b lo hi n v (p + 1)).2 ∧ (yl_num T e b lo hi n v (p + 1)).2 ≤ e := fun v => by
      have := ih v (p + 1) (by omega)
      exact ⟨by omega, this.2⟩
    exact cnd4 (fun X : Int32 × Nat => p ≤ X.2 ∧ X.2 ≤ e) (fun _ => k _) (fun _ => k _)
theorem yl_num_v {T : Nat → Int32} {e b : Nat} {lo hi : Int32} : ∀ n v p, (yl_num T e b lo hi n v p).1 = -1 ∨ (lo ≤ (yl_num T e b lo hi n v p).1 ∧ (yl_num T e b lo hi n v p).1 ≤ hi) := by
  have fin : ∀ (c1 c2 : Bool) (v : Int32) (p : Nat), (bif c1 then ((-1 : Int32), p) else bif c2 then (-1, p) else bif zc2 .lt v lo then (-1, p) else bif zc2 .gt v hi then (-1, p) else (v, p)).1 = -1 ∨ (lo ≤ (bif c1 then ((-1 : Int32), p) else bif c2 then (-1, p) else bif zc2 .lt v lo then (-1, p) else bif zc2 .gt v hi then (-1, p) else (v, p)).1 ∧ (bif c1 then ((-1 : Int32), p) else bif c2 then (-1, p) else bif zc2 .lt v lo then (-1, p) else bif zc2 .gt v hi then (-1, p) else (v, p)).1 ≤ hi) := by
    intro c1 c2 v p
    cases c1 with
    | true => exact Or.inl rfl
    | false =>
    cases c2 with
    | true => exact Or.inl rfl
    | false =>
    cases h3 : zc2 .lt v lo with
    | true => exact Or.inl rfl
    | false =>
    cases h4 : zc2 .gt v hi with
    | true => exact Or.inl rfl
    | false => exact Or.inr ⟨Int32.not_lt.mp (of_decide_eq_false h3), Int32.not_lt.mp (of_decide_eq_false h4)⟩
  intro n
  induction n with
  | zero => intro v p; unfold yl_num; exact fin _ _ v p
  | succ n ih =>
    intro v p
    unfold yl_num
    refine cnd4 (fun X : Int32 × Nat => X.1 = -1 ∨ (lo ≤ X.1 ∧ X.1 ≤ hi)) (fun _ => fin _ _ v p) (fun _ => cnd4 (fun X : Int32 × Nat => X.1 = -1 ∨ (lo ≤ X.1 ∧ X.1 ≤ hi)) (fun _ => fin _ _ v p) (fun _ => cnd4 (fun X : Int32 × Nat => X.1 = -1 ∨ (lo ≤ X.1 ∧ X.1 ≤ hi)) (fun _ => fin _ _ v p) (fun _ => cnd4 (fun X : Int32 × Nat => X.1 = -1 ∨ (lo ≤ X.1 ∧ X.1 ≤ hi)) (fun _ => ih _ _) (fun _ => ih _ _))))
theorem ynum_le {T : Nat → Int32} {e p : Nat} {lo hi : Int32} (he : e ≤ 400) (h : p ≤ e) : lkB T e p ≤ (y_readNumber T e p lo hi).2.1 ∧ (y_readNumber T e p lo hi).2.1 ≤ e ∧ (y_readNumber T e p lo hi).2.2 = lkB T e p := by
  have h1 := yl_num_le (T := T) (b := lkB T e p) (lo := lo) (hi := hi) he (e - lkB T e p) (Int32.ofNat 0) (lkB T e p) (lkB_le he h).2
  exact ⟨h1.1, h1.2, rfl⟩
theorem ynum_k {T : Nat → Int32} {e p a c : Nat} (hc : c ≤ 100000) (ha : a ≤ 100000) (h : ¬ (y_readNumber T e p (Int32.ofNat a) (Int32.ofNat c)).1 = -1) : (y_readNumber T e p (Int32.ofNat a) (Int32.ofNat c)).1 = Int32.ofNat (y_readNumber T e p (Int32.ofNat a) (Int32.ofNat c)).1.toNatClampNeg ∧ (y_readNumber T e p (Int32.ofNat a) (Int32.ofNat c)).1.toNatClampNeg ≤ c ∧ a ≤ (y_readNumber T e p (Int32.ofNat a) (Int32.ofNat c)).1.toNatClampNeg := by
  rcases yl_num_v (T := T) (e := e) (b := lkB T e p) (lo := Int32.ofNat a) (hi := Int32.ofNat c) (e - lkB T e p) (Int32.ofNat 0) (lkB T e p) with h1 | ⟨h1, h2⟩
  · exact absurd h1 h
  · exact nat_btw hc ha h1 h2
theorem ynameA_le {T : Nat → Int32} {e b s : Nat} (he : e ≤ 400) : ∀ n p, p ≤ e → p ≤ (yl_nameA T e b s n p).2 ∧ (yl_nameA T e b s n p).2 ≤ e := by
  intro n
  induction n with
  | zero => intro p h; exact ⟨Nat.le_refl _, h⟩
  | succ n ih =>
    intro p h
    unfold yl_nameA
    refine cnd4 (fun X : Int32 × Nat => p ≤ X.2 ∧ X.2 ≤ e) (fun _ => ⟨Nat.le_refl _, h⟩) (fun h1 => cnd4 (fun X : Int32 × Nat => p ≤ X.2 ∧ X.2 ≤ e) (fun _ => ⟨Nat.le_refl _, h⟩) (fun _ => cnd4 (fun X : Int32 × Nat => p ≤ X.2 ∧ X.2 ≤ e) (fun _ => ⟨Nat.le_refl _, h⟩) (fun _ => ?_)))
    have := tge_f (by omega) (by omega) h1
    have := ih (p + 1) (by omega)
    exact ⟨by omega, this.2⟩
theorem yname_le {T : Nat → Int32} {e p s : Nat} (he : e ≤ 400) (h : p ≤ e) : (y_readName T e p s).2.1 ≤ e ∧ (y_readName T e p s).2.2 ≤ (y_readName T e p s).2.1 := by
  have h1 := ynameA_le (T := T) (b := lkB T e p) (s := s) he (e - lkB T e p) (lkB T e p) (lkB_le he h).2
  exact ⟨h1.2, h1.1⟩
theorem yskip_le {T : Nat → Int32} {e p c : Nat} (he : e ≤ 400) (h : p ≤ e) : p ≤ (y_skipSign T e p c).2 ∧ (y_skipSign T e p c).2 ≤ e := by
  unfold y_skipSign
  refine cnd4 (fun X : Int32 × Nat => p ≤ X.2 ∧ X.2 ≤ e) (fun _ => ⟨Nat.le_refl _, h⟩) (fun h1 => cnd4 (fun X : Int32 × Nat => p ≤ X.2 ∧ X.2 ≤ e) (fun _ => ⟨Nat.le_refl _, h⟩) (fun _ => ?_))
  have := tge_f (by omega) (by omega) h1
  exact ⟨by omega, by omega⟩
/-- what a reading of the class leaves -/
noncomputable def YB (T : Nat → Int32) (e : Nat) (X : Int32 × (Nat → Nat → Int32) × Nat × Nat) : Prop := XR X.2.1 T e ∧ X.2.2.1 ≤ e ∧ X.2.2.2 ≤ X.2.2.1 ∧ (X.1 = 0 ∨ X.1 = 1)
theorem YB.mk {T : Nat → Int32} {e : Nat} {v : Int32} {m : Nat → Nat → Int32} {p b : Nat} (h0 : XR m T e) (h1 : p ≤ e) (h2 : b ≤ p) (h3 : v = 0 ∨ v = 1) : YB T e (v, m, p, b) := ⟨h0, h1, h2, h3⟩
theorem YB.eta {T : Nat → Int32} {e : Nat} {X : Int32 × (Nat → Nat → Int32) × Nat × Nat} (h : YB T e X) : YB T e (X.1, X.2.1, X.2.2.1, X.2.2.2) := h
theorem YB.num {T : Nat → Int32} {e p : Nat} {lo hi v : Int32} {m : Nat → Nat → Int32} (h0 : XR m T e) (hp : p ≤ e) (hv : v = 0 ∨ v = 1) : YB T e (v, m, (y_readNumber T e p lo hi).2.1, (y_readNumber T e p lo hi).2.2) := by
  have h := ynum_le (T := T) (lo := lo) (hi := hi) h0.2.2 hp
  exact YB.mk h0 h.2.1 (by rw [h.2.2]; exact h.1) hv
end
section
noncomputable def y_readTerm (T : (Nat → Int32)) (e : Nat) (m : (Nat → Nat → Int32)) (p : Nat) (b : Nat) (t : Nat) : Int32 × (Nat → Nat → Int32) × Nat × Nat := (bif zc1 .ne (Int32.ofNat t) then (bif zc2 .ne (y_readNumber T e p (((zla 0).getD t 0)) (((zla 1).getD t 0))).1 (-1) then ((Int32.ofNat 1), (zm2 m ((43 + 3)) t ((y_readNumber T e p (((zla 0).getD t 0)) (((zla 1).getD t 0))).1)), (y_readNumber T e p (((zla 0).getD t 0)) (((zla 1).getD t 0))).2.1, (y_readNumber T e p (((zla 0).getD t 0)) (((zla 1).getD t 0))).2.2) else ((Int32.ofNat 0), m, (y_readNumber T e p (((zla 0).getD t 0)) (((zla 1).getD t 0))).2.1, (y_readNumber T e p (((zla 0).getD t 0)) (((zla 1).getD t 0))).2.2)) else (bif zc1 .le (m 43 5) then (bif zc2 .ne (y_readNumber T e p (((zla 0).getD t 0)) (((zla 1).getD t 0))).1 (-1) then ((Int32.ofNat 1), (zm2 m ((43 + 3)) t ((y_readNumber T e p (((zla 0).getD t 0)) (((zla 1).getD t 0))).1)), (y_readNumber T e p (((zla 0).getD t 0)) (((zla 1).getD t 0))).2.1, (y_readNumber T e p (((zla 0).getD t 0)) (((zla 1).getD t 0))).2.2) else ((Int32.ofNat 0), m, (y_readNumber T e p (((zla 0).getD t 0)) (((zla 1).getD t 0))).2.1, (y_readNumber T e p (((zla 0).getD t 0)) (((zla 1).getD t 0))).2.2)) else ((Int32.ofNat 0), m, p, b)))
theorem yp_readTerm {σ : Nat → Nat × (Nat → Int32)} {yy : (Nat → Nat → Int64) × Bool × Nat × Nat} {m : Nat → Nat → Int32} {p b : Nat} {T : Nat → Int32} {e : Nat} {t : Nat} {d : Nat} (hd : 3 ≤ d + 1) (hG : XR m T e) (hp : p ≤ e) (ht : t ≤ 7) (hs : ZS σ) : zEv σ (d + 1) 1003 0 [some (.ref 128), some (.int (Int32.ofNat t)), none] [] (zS1, XP m p b, yy) (.inl (some (.int (y_readTerm T e m p b t).1))) (zS1, XP ((y_readTerm T e m p b t).2.1) ((y_readTerm T e m p b t).2.2.1) ((y_readTerm T e m p b t).2.2.2), yy) := by
  refine zeP rfl rfl ?_
  refine zeF1 rfl rfl (c1lt (by omega)) ?_
  refine zeP rfl rfl ?_
  refine zeKn (c := 8) rfl rfl rfl ?_
  refine zeF2 rfl rfl (tgt_f (by omega) (by omega) (by omega)) ?_
  refine zeP rfl rfl ?_
  refine zeB1 rfl rfl (fun h1 => ?_) (fun h1 => ?_)
  · refine zeP rfl rfl ?_
    refine zeS rfl rfl rfl ?_
    refine zeP rfl rfl ?_
    refine zeSt (n := 0) (k := t) hs (by omega) rfl (by show t < 9; omega) (by decide) ?_
    refine zeS rfl rfl rfl ?_
    refine zeP rfl rfl ?_
    refine zeSt (n := 1) (k := t) hs (by omega) rfl (by show t < 9; omega) (by decide) ?_
    refine zeCV rfl rfl rfl rfl zS128 rfl (yc_readNumber (lo := ((zla 0).getD t 0)) (hi := ((zla 1).getD t 0)) (T := T) (e := e) (m := m) (p := p) (b := b) hG hp) (by omega) ?_
    dsimp only [Option.toList, List.cons_append, List.nil_append]
    refine zeP rfl rfl ?_
    refine zeP rfl rfl ?_
    refine zeK (v := -1) rfl rfl rfl ?_
    refine zeB2 rfl rfl (fun h2 => ?_) (fun h2 => ?_)
    · refine zeP rfl rfl ?_
      refine zeGR rfl rfl zS128 rfl rfl ?_
      refine zeGR rfl rfl (shM bb43) rfl rfl ?_
      refine zeP rfl rfl ?_
      refine zeP rfl rfl ?_
      refine zeXAS (a := (43 + 3)) (k := t) (by first | decide | omega) rfl (shE bb43) rfl (by omega) ?_
      refine zeKn (c := 1) rfl rfl rfl ?_
      exact zeRe rfl rfl rfl rfl (by simp only [y_readTerm, h1, h2, cond_true, cond_false] <;> rfl) (by simp only [y_readTerm, h1, h2, cond_true, cond_false] <;> rfl)
    · refine zeKn (c := 0) rfl rfl rfl ?_
      exact zeRe rfl rfl rfl rfl (by simp only [y_readTerm, h1, h2, cond_true, cond_false] <;> rfl) (by simp only [y_readTerm, h1, h2, cond_true, cond_false] <;> rfl)
  · refine zeP rfl rfl ?_
    refine zeGR rfl rfl zS128 rfl rfl ?_
    refine zeXGI (a := 43) (by first | decide | omega) rfl rfl (shM bb43) rfl rfl ?_
    refine zeB1 rfl rfl (fun h3 => ?_) (fun h3 => ?_)
    · refine zeP rfl rfl ?_
      refine zeS rfl rfl rfl ?_
      refine zeP rfl rfl ?_
      refine zeSt (n := 0) (k := t) hs (by omega) rfl (by show t < 9; omega) (by decide) ?_
      refine zeS rfl rfl rfl ?_
      refine zeP rfl rfl ?_
      refine zeSt (n := 1) (k := t) hs (by omega) rfl (by show t < 9; omega) (by decide) ?_
      refine zeCV rfl rfl rfl rfl zS128 rfl (yc_readNumber (lo := ((zla 0).getD t 0)) (hi := ((zla 1).getD t 0)) (T := T) (e := e) (m := m) (p := p) (b := b) hG hp) (by omega) ?_
      dsimp only [Option.toList, List.cons_append, List.nil_append]
      refine zeP rfl rfl ?_
      refine zeP rfl rfl ?_
      refine zeK (v := -1) rfl rfl rfl ?_
      refine zeB2 rfl rfl (fun h4 => ?_) (fun h4 => ?_)
      · refine zeP rfl rfl ?_
        refine zeGR rfl rfl zS128 rfl rfl ?_
        refine zeGR rfl rfl (shM bb43) rfl rfl ?_
        refine zeP rfl rfl ?_
        refine zeP rfl rfl ?_
        refine zeXAS (a := (43 + 3)) (k := t) (by first | decide | omega) rfl (shE bb43) rfl (by omega) ?_
        refine zeKn (c := 1) rfl rfl rfl ?_
        exact zeRe rfl rfl rfl rfl (by simp only [y_readTerm, h1, h3, h4, cond_true, cond_false] <;> rfl) (by simp only [y_readTerm, h1, h3, h4, cond_true, cond_false] <;> rfl)
      · refine zeKn (c := 0) rfl rfl rfl ?_
        exact zeRe rfl rfl rfl rfl (by simp only [y_readTerm, h1, h3, h4, cond_true, cond_false] <;> rfl) (by simp only [y_readTerm, h1, h3, h4, cond_true, cond_false] <;> rfl)
    · refine zeKn (c := 0) rfl rfl rfl ?_
      exact zeRe rfl rfl rfl rfl (by simp only [y_readTerm, h1, h3, cond_true, cond_false] <;> rfl) (by simp only [y_readTerm, h1, h3, cond_true, cond_false] <;> rfl)
theorem yc_readTerm {σ : Nat → Nat × (Nat → Int32)} {yy : (Nat → Nat → Int64) × Bool × Nat × Nat} {m : Nat → Nat → Int32} {p b : Nat} {T : Nat → Int32} {e : Nat} {t : Nat} (hG : XR m T e) (hp : p ≤ e) (ht : t ≤ 7) (hs : ZS σ) : zF σ 3 1003 [.ref 128, .int (Int32.ofNat t)] (zS1, XP m p b, yy) (.inl (some (.int (y_readTerm T e m p b t).1))) (zS1, XP ((y_readTerm T e m p b t).2.1) ((y_readTerm T e m p b t).2.2.1) ((y_readTerm T e m p b t).2.2.2), yy) := by
  intro d hd
  obtain ⟨d, rfl⟩ : ∃ k, d = k + 1 := ⟨d - 1, by omega⟩
  exact yp_readTerm hd hG hp ht hs
noncomputable def yl_readTrust (v : Int32) : Nat → Nat → (Nat → Nat → Int32) → Int32 × (Nat → Nat → Int32)
  | 0, l, m => ((Int32.ofNat 1), m)
  | n + 1, l, m => (yl_readTrust v n ((l + 1)) ((zm2 m ((43 + 5 + l)) 1 v)))
theorem yw_readTrust {σ : Nat → Nat × (Nat → Int32)} {yy : (Nat → Nat → Int64) × Bool × Nat × Nat} {p : Nat} {b : Nat} {T : Nat → Int32} {e : Nat} {v : Int32} {d : Nat} (hd : 2 ≤ d + 1) : ∀ (n : Nat) (l : Nat) (m : (Nat → Nat → Int32)), l + n = 4 → zEv σ (d + 1) 1004 17 [some (.ref 128), some (.int v), some (.int (Int32.ofNat l))] [] (zS1, XP m p b, yy) (.inl (some (.int (yl_readTrust v n l m).1))) (zS1, XP ((yl_readTrust v n l m).2) p b, yy) := by
  intro n
  induction n with
  | zero =>
    intro l m hk
    refine zeP rfl rfl ?_
    refine zeKn (c := 4) rfl rfl rfl ?_
    refine zeT2 rfl rfl (zcge (by omega) (by omega) (by omega)) ?_
    refine zeKn (c := 1) rfl rfl rfl ?_
    exact zeRe rfl rfl rfl rfl (by rfl) (by rfl)
  | succ n ih =>
    intro l m hk
    refine zeP rfl rfl ?_
    refine zeKn (c := 4) rfl rfl rfl ?_
    refine zeF2 rfl rfl (zcge_f (by omega) (by omega) (by omega)) ?_
    refine zeP rfl rfl ?_
    refine zeGR rfl rfl zS128 rfl rfl ?_
    refine zeP rfl rfl ?_
    refine zeCV rfl rfl rfl rfl (shM bb43) rfl (yc_lockAt (m := m) (p := p) (b := b) (l := l) (by omega)) (by omega) ?_
    dsimp only [Option.toList, List.cons_append, List.nil_append]
    refine zeP rfl rfl ?_
    refine zeXPI (a := (43 + 5 + l)) (by first | decide | omega) rfl rfl (shL bb43 (by omega)) rfl ?_
    refine zeInc rfl rfl ?_
    refine zeP rfl rfl ?_
    simp only [yl_readTrust, cond_true, cond_false]
    exact ih ((l + 1)) ((zm2 m ((43 + 5 + l)) 1 v)) (by omega) 
noncomputable def y_readTrust (T : (Nat → Int32)) (e : Nat) (m : (Nat → Nat → Int32)) (p : Nat) : Int32 × (Nat → Nat → Int32) × Nat × Nat := (bif zc2 .ne (y_readNumber T e p ((Int32.ofNat 0)) ((Int32.ofNat 15))).1 (-1) then ((yl_readTrust ((y_readNumber T e p ((Int32.ofNat 0)) ((Int32.ofNat 15))).1) 4 0 m).1, (yl_readTrust ((y_readNumber T e p ((Int32.ofNat 0)) ((Int32.ofNat 15))).1) 4 0 m).2, (y_readNumber T e p ((Int32.ofNat 0)) ((Int32.ofNat 15))).2.1, (y_readNumber T e p ((Int32.ofNat 0)) ((Int32.ofNat 15))).2.2) else ((Int32.ofNat 0), m, (y_readNumber T e p ((Int32.ofNat 0)) ((Int32.ofNat 15))).2.1, (y_readNumber T e p ((Int32.ofNat 0)) ((Int32.ofNat 15))).2.2))
theorem yp_readTrust {σ : Nat → Nat × (Nat → Int32)} {yy : (Nat → Nat → Int64) × Bool × Nat × Nat} {m : Nat → Nat → Int32} {p b : Nat} {T : Nat → Int32} {e : Nat} {d : Nat} (hd : 3 ≤ d + 1) (hG : XR m T e) (hp : p ≤ e) : zEv σ (d + 1) 1004 0 [some (.ref 128), none, none] [] (zS1, XP m p b, yy) (.inl (some (.int (y_readTrust T e m p).1))) (zS1, XP ((y_readTrust T e m p).2.1) ((y_readTrust T e m p).2.2.1) ((y_readTrust T e m p).2.2.2), yy) := by
  refine zeP rfl rfl ?_
  refine zeKn (c := 0) rfl rfl rfl ?_
  refine zeKn (c := 15) rfl rfl rfl ?_
  refine zeCV rfl rfl rfl rfl zS128 rfl (yc_readNumber (lo := (Int32.ofNat 0)) (hi := (Int32.ofNat 15)) (T := T) (e := e) (m := m) (p := p) (b := b) hG hp) (by omega) ?_
  dsimp only [Option.toList, List.cons_append, List.nil_append]
  refine zeP rfl rfl ?_
  refine zeP rfl rfl ?_
  refine zeK (v := -1) rfl rfl rfl ?_
  refine zeB2 rfl rfl (fun h1 => ?_) (fun h1 => ?_)
  · refine zeKn (c := 0) rfl rfl rfl ?_
    refine zeP rfl rfl ?_
    simp only [y_readTrust, h1, cond_true, cond_false]
    exact yw_readTrust (v := (y_readNumber T e p ((Int32.ofNat 0)) ((Int32.ofNat 15))).1) (T := T) (e := e) (p := (y_readNumber T e p ((Int32.ofNat 0)) ((Int32.ofNat 15))).2.1) (b := (y_readNumber T e p ((Int32.ofNat 0)) ((Int32.ofNat 15))).2.2) (by omega)  4 (0) m (by omega) 
  · refine zeKn (c := 0) rfl rfl rfl ?_
    exact zeRe rfl rfl rfl rfl (by simp only [y_readTrust, h1, cond_true, cond_false] <;> rfl) (by simp only [y_readTrust, h1, cond_true, cond_false] <;> rfl)
theorem yc_readTrust {σ : Nat → Nat × (Nat → Int32)} {yy : (Nat → Nat → Int64) × Bool × Nat × Nat} {m : Nat → Nat → Int32} {p b : Nat} {T : Nat → Int32} {e : Nat} (hG : XR m T e) (hp : p ≤ e) : zF σ 3 1004 [.ref 128] (zS1, XP m p b, yy) (.inl (some (.int (y_readTrust T e m p).1))) (zS1, XP ((y_readTrust T e m p).2.1) ((y_readTrust T e m p).2.2.1) ((y_readTrust T e m p).2.2.2), yy) := by
  intro d hd
  obtain ⟨d, rfl⟩ : ∃ k, d = k + 1 := ⟨d - 1, by omega⟩
  exact yp_readTrust hd hG hp
noncomputable def y_readWord (T : (Nat → Int32)) (e : Nat) (m : (Nat → Nat → Int32)) (p : Nat) : Int32 × (Nat → Nat → Int32) × Nat × Nat := (bif zc2 .ne (y_readNumber T e p ((Int32.ofNat 0)) ((Int32.ofNat 31))).1 (-1) then (bif zc2 .ne (y_readNumber T e ((y_readNumber T e p ((Int32.ofNat 0)) ((Int32.ofNat 31))).2.1) ((Int32.ofNat 0)) ((Int32.ofNat 9999))).1 (-1) then ((Int32.ofNat 1), (zm2 ((zm2 m ((43 + 1)) (((y_readNumber T e p ((Int32.ofNat 0)) ((Int32.ofNat 31))).1).toNatClampNeg) ((y_readNumber T e ((y_readNumber T e p ((Int32.ofNat 0)) ((Int32.ofNat 31))).2.1) ((Int32.ofNat 0)) ((Int32.ofNat 9999))).1))) ((43 + 2)) (((y_readNumber T e p ((Int32.ofNat 0)) ((Int32.ofNat 31))).1).toNatClampNeg) ((y_readNumber T e ((y_readNumber T e p ((Int32.ofNat 0)) ((Int32.ofNat 31))).2.1) ((Int32.ofNat 0)) ((Int32.ofNat 9999))).1)), (y_readNumber T e ((y_readNumber T e p ((Int32.ofNat 0)) ((Int32.ofNat 31))).2.1) ((Int32.ofNat 0)) ((Int32.ofNat 9999))).2.1, (y_readNumber T e ((y_readNumber T e p ((Int32.ofNat 0)) ((Int32.ofNat 31))).2.1) ((Int32.ofNat 0)) ((Int32.ofNat 9999))).2.2) else ((Int32.ofNat 0), m, (y_readNumber T e ((y_readNumber T e p ((Int32.ofNat 0)) ((Int32.ofNat 31))).2.1) ((Int32.ofNat 0)) ((Int32.ofNat 9999))).2.1, (y_readNumber T e ((y_readNumber T e p ((Int32.ofNat 0)) ((Int32.ofNat 31))).2.1) ((Int32.ofNat 0)) ((Int32.ofNat 9999))).2.2)) else ((Int32.ofNat 0), m, (y_readNumber T e p ((Int32.ofNat 0)) ((Int32.ofNat 31))).2.1, (y_readNumber T e p ((Int32.ofNat 0)) ((Int32.ofNat 31))).2.2))
theorem yp_readWord {σ : Nat → Nat × (Nat → Int32)} {yy : (Nat → Nat → Int64) × Bool × Nat × Nat} {m : Nat → Nat → Int32} {p b : Nat} {T : Nat → Int32} {e : Nat} {d : Nat} (hd : 3 ≤ d + 1) (hG : XR m T e) (hp : p ≤ e) : zEv σ (d + 1) 1005 0 [some (.ref 128), none, none] [] (zS1, XP m p b, yy) (.inl (some (.int (y_readWord T e m p).1))) (zS1, XP ((y_readWord T e m p).2.1) ((y_readWord T e m p).2.2.1) ((y_readWord T e m p).2.2.2), yy) := by
  refine zeP rfl rfl ?_
  refine zeKn (c := 0) rfl rfl rfl ?_
  refine zeKn (c := 31) rfl rfl rfl ?_
  refine zeCV rfl rfl rfl rfl zS128 rfl (yc_readNumber (lo := (Int32.ofNat 0)) (hi := (Int32.ofNat 31)) (T := T) (e := e) (m := m) (p := p) (b := b) hG hp) (by omega) ?_
  dsimp only [Option.toList, List.cons_append, List.nil_append]
  refine zeP rfl rfl ?_
  refine zeP rfl rfl ?_
  refine zeK (v := -1) rfl rfl rfl ?_
  refine zeB2 rfl rfl (fun h1 => ?_) (fun h1 => ?_)
  · refine zeP rfl rfl ?_
    refine zeKn (c := 0) rfl rfl rfl ?_
    refine zeKn (c := 9999) rfl rfl rfl ?_
    refine zeCV rfl rfl rfl rfl zS128 rfl (yc_readNumber (lo := (Int32.ofNat 0)) (hi := (Int32.ofNat 9999)) (T := T) (e := e) (m := m) (p := (y_readNumber T e p ((Int32.ofNat 0)) ((Int32.ofNat 31))).2.1) (b := (y_readNumber T e p ((Int32.ofNat 0)) ((Int32.ofNat 31))).2.2) hG (ynum_le hG.2.2 hp).2.1) (by omega) ?_
    dsimp only [Option.toList, List.cons_append, List.nil_append]
    refine zeP rfl rfl ?_
    refine zeP rfl rfl ?_
    refine zeK (v := -1) rfl rfl rfl ?_
    refine zeB2 rfl rfl (fun h2 => ?_) (fun h2 => ?_)
    · have hw : (y_readNumber T e p ((Int32.ofNat 0)) ((Int32.ofNat 31))).1 = Int32.ofNat ((y_readNumber T e p ((Int32.ofNat 0)) ((Int32.ofNat 31))).1).toNatClampNeg ∧ ((y_readNumber T e p ((Int32.ofNat 0)) ((Int32.ofNat 31))).1).toNatClampNeg ≤ 31 := ⟨(ynum_k (by omega) (by omega) (zne_t h1)).1, (ynum_k (by omega) (by omega) (zne_t h1)).2.1⟩
      refine zeP rfl rfl ?_
      refine zeGR rfl rfl zS128 rfl rfl ?_
      refine zeGR rfl rfl (shM bb43) rfl rfl ?_
      refine zeKn (c := ((y_readNumber T e p ((Int32.ofNat 0)) ((Int32.ofNat 31))).1).toNatClampNeg) rfl rfl hw.1 ?_
      refine zeKn (c := 31) rfl rfl rfl ?_
      refine zeON (c := ((y_readNumber T e p ((Int32.ofNat 0)) ((Int32.ofNat 31))).1).toNatClampNeg) rfl rfl (zand31 _ (by omega)) ?_
      refine zeP rfl rfl ?_
      refine zeXAS (a := (43 + 1)) (k := ((y_readNumber T e p ((Int32.ofNat 0)) ((Int32.ofNat 31))).1).toNatClampNeg) (by first | decide | omega) rfl (shW bb43) rfl (by omega) ?_
      refine zeP rfl rfl ?_
      refine zeGR rfl rfl zS128 rfl rfl ?_
      refine zeGR rfl rfl (shM bb43) rfl rfl ?_
      refine zeKn (c := ((y_readNumber T e p ((Int32.ofNat 0)) ((Int32.ofNat 31))).1).toNatClampNeg) rfl rfl hw.1 ?_
      refine zeKn (c := 31) rfl rfl rfl ?_
      refine zeON (c := ((y_readNumber T e p ((Int32.ofNat 0)) ((Int32.ofNat 31))).1).toNatClampNeg) rfl rfl (zand31 _ (by omega)) ?_
      refine zeP rfl rfl ?_
      refine zeXAS (a := (43 + 2)) (k := ((y_readNumber T e p ((Int32.ofNat 0)) ((Int32.ofNat 31))).1).toNatClampNeg) (by first | decide | omega) rfl (shT bb43) rfl (by omega) ?_
      refine zeKn (c := 1) rfl rfl rfl ?_
      exact zeRe rfl rfl rfl rfl (by simp only [y_readWord, h1, h2, cond_true, cond_false] <;> rfl) (by simp only [y_readWord, h1, h2, cond_true, cond_false] <;> rfl)
    · refine zeKn (c := 0) rfl rfl rfl ?_
      exact zeRe rfl rfl rfl rfl (by simp only [y_readWord, h1, h2, cond_true, cond_false] <;> rfl) (by simp only [y_readWord, h1, h2, cond_true, cond_false] <;> rfl)
  · refine zeKn (c := 0) rfl rfl rfl ?_
    exact zeRe rfl rfl rfl rfl (by simp only [y_readWord, h1, cond_true, cond_false] <;> rfl) (by simp only [y_readWord, h1, cond_true, cond_false] <;> rfl)
theorem yc_readWord {σ : Nat → Nat × (Nat → Int32)} {yy : (Nat → Nat → Int64) × Bool × Nat × Nat} {m : Nat → Nat → Int32} {p b : Nat} {T : Nat → Int32} {e : Nat} (hG : XR m T e) (hp : p ≤ e) : zF σ 3 1005 [.ref 128] (zS1, XP m p b, yy) (.inl (some (.int (y_readWord T e m p).1))) (zS1, XP ((y_readWord T e m p).2.1) ((y_readWord T e m p).2.2.1) ((y_readWord T e m p).2.2.2), yy) := by
  intro d hd
  obtain ⟨d, rfl⟩ : ∃ k, d = k + 1 := ⟨d - 1, by omega⟩
  exact yp_readWord hd hG hp
noncomputable def y_readLock (T : (Nat → Int32)) (e : Nat) (m : (Nat → Nat → Int32)) (p : Nat) : Int32 × (Nat → Nat → Int32) × Nat × Nat := (bif zc2 .eq (y_readNumber T e p ((Int32.ofNat 0)) ((Int32.ofNat 3))).1 (-1) then ((Int32.ofNat 0), m, (y_readNumber T e p ((Int32.ofNat 0)) ((Int32.ofNat 3))).2.1, (y_readNumber T e p ((Int32.ofNat 0)) ((Int32.ofNat 3))).2.2) else (bif zc2 .ne (y_readName T e ((y_readNumber T e p ((Int32.ofNat 0)) ((Int32.ofNat 3))).2.1) 1).1 (-1) then (bif zc2 .eq (y_readNumber T e ((y_readName T e ((y_readNumber T e p ((Int32.ofNat 0)) ((Int32.ofNat 3))).2.1) 1).2.1) ((Int32.ofNat 0)) ((Int32.ofNat 31))).1 (-1) then ((Int32.ofNat 0), m, (y_readNumber T e ((y_readName T e ((y_readNumber T e p ((Int32.ofNat 0)) ((Int32.ofNat 3))).2.1) 1).2.1) ((Int32.ofNat 0)) ((Int32.ofNat 31))).2.1, (y_readNumber T e ((y_readName T e ((y_readNumber T e p ((Int32.ofNat 0)) ((Int32.ofNat 3))).2.1) 1).2.1) ((Int32.ofNat 0)) ((Int32.ofNat 31))).2.2) else (bif zc1 .eq (x_isWordOfOther m 43 ((y_readNumber T e p ((Int32.ofNat 0)) ((Int32.ofNat 3))).1) ((y_readNumber T e ((y_readName T e ((y_readNumber T e p ((Int32.ofNat 0)) ((Int32.ofNat 3))).2.1) 1).2.1) ((Int32.ofNat 0)) ((Int32.ofNat 31))).1)) then ((Int32.ofNat 1), (zm2 m ((43 + 5 + ((((y_readNumber T e p ((Int32.ofNat 0)) ((Int32.ofNat 3))).1).toNatClampNeg)))) 0 (y_readNumber T e ((y_readName T e ((y_readNumber T e p ((Int32.ofNat 0)) ((Int32.ofNat 3))).2.1) 1).2.1) ((Int32.ofNat 0)) ((Int32.ofNat 31))).1), (y_readNumber T e ((y_readName T e ((y_readNumber T e p ((Int32.ofNat 0)) ((Int32.ofNat 3))).2.1) 1).2.1) ((Int32.ofNat 0)) ((Int32.ofNat 31))).2.1, (y_readNumber T e ((y_readName T e ((y_readNumber T e p ((Int32.ofNat 0)) ((Int32.ofNat 3))).2.1) 1).2.1) ((Int32.ofNat 0)) ((Int32.ofNat 31))).2.2) else ((Int32.ofNat 0), m, (y_readNumber T e ((y_readName T e ((y_readNumber T e p ((Int32.ofNat 0)) ((Int32.ofNat 3))).2.1) 1).2.1) ((Int32.ofNat 0)) ((Int32.ofNat 31))).2.1, (y_readNumber T e ((y_readName T e ((y_readNumber T e p ((Int32.ofNat 0)) ((Int32.ofNat 3))).2.1) 1).2.1) ((Int32.ofNat 0)) ((Int32.ofNat 31))).2.2))) else ((Int32.ofNat 0), m, (y_readName T e ((y_readNumber T e p ((Int32.ofNat 0)) ((Int32.ofNat 3))).2.1) 1).2.1, (y_readName T e ((y_readNumber T e p ((Int32.ofNat 0)) ((Int32.ofNat 3))).2.1) 1).2.2)))
theorem yp_readLock {σ : Nat → Nat × (Nat → Int32)} {yy : (Nat → Nat → Int64) × Bool × Nat × Nat} {m : Nat → Nat → Int32} {p b : Nat} {T : Nat → Int32} {e : Nat} {d : Nat} (hd : 3 ≤ d + 1) (hG : XR m T e) (hp : p ≤ e) : zEv σ (d + 1) 1006 0 [some (.ref 128), none, none] [] (zS1, XP m p b, yy) (.inl (some (.int (y_readLock T e m p).1))) (zS1, XP ((y_readLock T e m p).2.1) ((y_readLock T e m p).2.2.1) ((y_readLock T e m p).2.2.2), yy) := by
  refine zeP rfl rfl ?_
  refine zeKn (c := 0) rfl rfl rfl ?_
  refine zeKn (c := 3) rfl rfl rfl ?_
  refine zeCV rfl rfl rfl rfl zS128 rfl (yc_readNumber (lo := (Int32.ofNat 0)) (hi := (Int32.ofNat 3)) (T := T) (e := e) (m := m) (p := p) (b := b) hG hp) (by omega) ?_
  dsimp only [Option.toList, List.cons_append, List.nil_append]
  refine zeP rfl rfl ?_
  refine zeP rfl rfl ?_
  refine zeK (v := -1) rfl rfl rfl ?_
  refine zeB2 rfl rfl (fun h1 => ?_) (fun h1 => ?_)
  · refine zeKn (c := 0) rfl rfl rfl ?_
    exact zeRe rfl rfl rfl rfl (by simp only [y_readLock, h1, cond_true, cond_false] <;> rfl) (by simp only [y_readLock, h1, cond_true, cond_false] <;> rfl)
  · refine zeP rfl rfl ?_
    refine zeS rfl rfl rfl ?_
    refine zeCV rfl rfl rfl rfl zS128 rfl (yc_readName (s := 1) (T := T) (e := e) (m := m) (p := (y_readNumber T e p ((Int32.ofNat 0)) ((Int32.ofNat 3))).2.1) (b := (y_readNumber T e p ((Int32.ofNat 0)) ((Int32.ofNat 3))).2.2) hG (by omega) (ynum_le (T := T) (lo := Int32.ofNat 0) (hi := Int32.ofNat 3) hG.2.2 hp).2.1) (by omega) ?_
    dsimp only [Option.toList, List.cons_append, List.nil_append]
    refine zeK (v := -1) rfl rfl rfl ?_
    refine zeB2 rfl rfl (fun h2 => ?_) (fun h2 => ?_)
    · refine zeP rfl rfl ?_
      refine zeKn (c := 0) rfl rfl rfl ?_
      refine zeKn (c := 31) rfl rfl rfl ?_
      refine zeCV rfl rfl rfl rfl zS128 rfl (yc_readNumber (lo := (Int32.ofNat 0)) (hi := (Int32.ofNat 31)) (T := T) (e := e) (m := m) (p := (y_readName T e ((y_readNumber T e p ((Int32.ofNat 0)) ((Int32.ofNat 3))).2.1) 1).2.1) (b := (y_readName T e ((y_readNumber T e p ((Int32.ofNat 0)) ((Int32.ofNat 3))).2.1) 1).2.2) hG (yname_le (T := T) (s := 1) hG.2.2 (ynum_le (T := T) (lo := Int32.ofNat 0) (hi := Int32.ofNat 3) hG.2.2 hp).2.1).1) (by omega) ?_
      dsimp only [Option.toList, List.cons_append, List.nil_append]
      refine zeP rfl rfl ?_
      refine zeP rfl rfl ?_
      refine zeK (v := -1) rfl rfl rfl ?_
      refine zeB2 rfl rfl (fun h3 => ?_) (fun h3 => ?_)
      · refine zeKn (c := 0) rfl rfl rfl ?_
        exact zeRe rfl rfl rfl rfl (by simp only [y_readLock, h1, h2, h3, cond_true, cond_false] <;> rfl) (by simp only [y_readLock, h1, h2, h3, cond_true, cond_false] <;> rfl)
      · refine zeP rfl rfl ?_
        refine zeGR rfl rfl zS128 rfl rfl ?_
        refine zeP rfl rfl ?_
        refine zeP rfl rfl ?_
        refine zeCV rfl rfl rfl rfl (shM bb43) rfl (yc_isWordOfOther (m := m) (p := (y_readNumber T e ((y_readName T e ((y_readNumber T e p ((Int32.ofNat 0)) ((Int32.ofNat 3))).2.1) 1).2.1) ((Int32.ofNat 0)) ((Int32.ofNat 31))).2.1) (b := (y_readNumber T e ((y_readName T e ((y_readNumber T e p ((Int32.ofNat 0)) ((Int32.ofNat 3))).2.1) 1).2.1) ((Int32.ofNat 0)) ((Int32.ofNat 31))).2.2) (l := (y_readNumber T e p ((Int32.ofNat 0)) ((Int32.ofNat 3))).1) (w := (y_readNumber T e ((y_readName T e ((y_readNumber T e p ((Int32.ofNat 0)) ((Int32.ofNat 3))).2.1) 1).2.1) ((Int32.ofNat 0)) ((Int32.ofNat 31))).1) ) (by omega) ?_
        dsimp only [Option.toList, List.cons_append, List.nil_append]
        refine zeB1 rfl rfl (fun h4 => ?_) (fun h4 => ?_)
        · have hl : (y_readNumber T e p ((Int32.ofNat 0)) ((Int32.ofNat 3))).1 = Int32.ofNat ((y_readNumber T e p ((Int32.ofNat 0)) ((Int32.ofNat 3))).1).toNatClampNeg ∧ ((y_readNumber T e p ((Int32.ofNat 0)) ((Int32.ofNat 3))).1).toNatClampNeg ≤ 3 := ⟨(ynum_k (by omega) (by omega) (zeq_f h1)).1, (ynum_k (by omega) (by omega) (zeq_f h1)).2.1⟩
          refine zeP rfl rfl ?_
          refine zeGR rfl rfl zS128 rfl rfl ?_
          refine zeKn (c := ((y_readNumber T e p ((Int32.ofNat 0)) ((Int32.ofNat 3))).1).toNatClampNeg) rfl rfl hl.1 ?_
          refine zeCV rfl rfl rfl rfl (shM bb43) rfl (yc_lockAt (m := m) (p := (y_readNumber T e ((y_readName T e ((y_readNumber T e p ((Int32.ofNat 0)) ((Int32.ofNat 3))).2.1) 1).2.1) ((Int32.ofNat 0)) ((Int32.ofNat 31))).2.1) (b := (y_readNumber T e ((y_readName T e ((y_readNumber T e p ((Int32.ofNat 0)) ((Int32.ofNat 3))).2.1) 1).2.1) ((Int32.ofNat 0)) ((Int32.ofNat 31))).2.2) (l := (((y_readNumber T e p ((Int32.ofNat 0)) ((Int32.ofNat 3))).1).toNatClampNeg)) (by omega)) (by omega) ?_
          dsimp only [Option.toList, List.cons_append, List.nil_append]
          refine zeP rfl rfl ?_
          refine zeXPI (a := (43 + 5 + ((((y_readNumber T e p ((Int32.ofNat 0)) ((Int32.ofNat 3))).1).toNatClampNeg)))) (by first | decide | omega) rfl rfl (shL bb43 (by omega)) rfl ?_
          refine zeKn (c := 1) rfl rfl rfl ?_
          exact zeRe rfl rfl rfl rfl (by simp only [y_readLock, h1, h2, h3, h4, cond_true, cond_false] <;> rfl) (by simp only [y_readLock, h1, h2, h3, h4, cond_true, cond_false] <;> rfl)
        · refine zeKn (c := 0) rfl rfl rfl ?_
          exact zeRe rfl rfl rfl rfl (by simp only [y_readLock, h1, h2, h3, h4, cond_true, cond_false] <;> rfl) (by simp only [y_readLock, h1, h2, h3, h4, cond_true, cond_false] <;> rfl)
    · refine zeKn (c := 0) rfl rfl rfl ?_
      exact zeRe rfl rfl rfl rfl (by simp only [y_readLock, h1, h2, cond_true, cond_false] <;> rfl) (by simp only [y_readLock, h1, h2, cond_true, cond_false] <;> rfl)
theorem yc_readLock {σ : Nat → Nat × (Nat → Int32)} {yy : (Nat → Nat → Int64) × Bool × Nat × Nat} {m : Nat → Nat → Int32} {p b : Nat} {T : Nat → Int32} {e : Nat} (hG : XR m T e) (hp : p ≤ e) : zF σ 3 1006 [.ref 128] (zS1, XP m p b, yy) (.inl (some (.int (y_readLock T e m p).1))) (zS1, XP ((y_readLock T e m p).2.1) ((y_readLock T e m p).2.2.1) ((y_readLock T e m p).2.2.2), yy) := by
  intro d hd
  obtain ⟨d, rfl⟩ : ∃ k, d = k + 1 := ⟨d - 1, by omega⟩
  exact yp_readLock hd hG hp
theorem i7_of {x : Int32} {n : Nat} (hn : n < 2147483648) (h1 : zc1 .lt x = false) (h2 : zc2 .le x (Int32.ofNat n) = true) : x = Int32.ofNat x.toNatClampNeg ∧ x.toNatClampNeg ≤ n := by
  have a := of_decide_eq_false h1
  have c := of_decide_eq_true h2
  rw [Int32.lt_iff_toInt_lt, Int32.toInt_zero] at a
  rw [Int32.le_iff_toInt_le, zoN hn] at c
  have h3 : x.toNatClampNeg = x.toInt.toNat := rfl
  refine ⟨?_, by omega⟩
  apply Int32.toInt_inj.mp
  rw [zoN (by omega), h3]
  omega
noncomputable def y_readDeed (T : (Nat → Int32)) (e : Nat) (m : (Nat → Nat → Int32)) (p : Nat) (t : Nat) : Int32 × (Nat → Nat → Int32) × Nat × Nat := (bif zc1 .lt (y_readName T e p 2).1 then ((Int32.ofNat 0), m, (y_readName T e p 2).2.1, (y_readName T e p 2).2.2) else (bif zc2 .le (y_readName T e p 2).1 (Int32.ofNat 7) then (bif zc2 .ne (Int32.ofNat (((y_readName T e p 2).1).toNatClampNeg)) (Int32.ofNat 7) then (bif zc2 .ne (y_readNumber T e ((y_readName T e p 2).2.1) (((zla 2).getD ((((y_readName T e p 2).1).toNatClampNeg)) 0)) (((zla 3).getD ((((y_readName T e p 2).1).toNatClampNeg)) 0))).1 (-1) then ((Int32.ofNat 1), (x_addDeed m 43 t ((Int32.ofNat (((y_readName T e p 2).1).toNatClampNeg))) ((y_readNumber T e ((y_readName T e p 2).2.1) (((zla 2).getD ((((y_readName T e p 2).1).toNatClampNeg)) 0)) (((zla 3).getD ((((y_readName T e p 2).1).toNatClampNeg)) 0))).1)), (y_readNumber T e ((y_readName T e p 2).2.1) (((zla 2).getD ((((y_readName T e p 2).1).toNatClampNeg)) 0)) (((zla 3).getD ((((y_readName T e p 2).1).toNatClampNeg)) 0))).2.1, (y_readNumber T e ((y_readName T e p 2).2.1) (((zla 2).getD ((((y_readName T e p 2).1).toNatClampNeg)) 0)) (((zla 3).getD ((((y_readName T e p 2).1).toNatClampNeg)) 0))).2.2) else ((Int32.ofNat 0), m, (y_readNumber T e ((y_readName T e p 2).2.1) (((zla 2).getD ((((y_readName T e p 2).1).toNatClampNeg)) 0)) (((zla 3).getD ((((y_readName T e p 2).1).toNatClampNeg)) 0))).2.1, (y_readNumber T e ((y_readName T e p 2).2.1) (((zla 2).getD ((((y_readName T e p 2).1).toNatClampNeg)) 0)) (((zla 3).getD ((((y_readName T e p 2).1).toNatClampNeg)) 0))).2.2)) else ((Int32.ofNat 1), (x_addDeed m 43 t ((Int32.ofNat (((y_readName T e p 2).1).toNatClampNeg))) ((Int32.ofNat 0))), (y_readName T e p 2).2.1, (y_readName T e p 2).2.2)) else ((Int32.ofNat 0), m, (y_readName T e p 2).2.1, (y_readName T e p 2).2.2)))
theorem yp_readDeed {σ : Nat → Nat × (Nat → Int32)} {yy : (Nat → Nat → Int64) × Bool × Nat × Nat} {m : Nat → Nat → Int32} {p b : Nat} {T : Nat → Int32} {e : Nat} {t : Nat} {d : Nat} (hd : 3 ≤ d + 1) (hG : XR m T e) (hp : p ≤ e) (ht : t < 4) (hdd : okm m (43 + 10 + 7 * t) 2 24) (hs : ZS σ) : zEv σ (d + 1) 1008 0 [some (.ref 128), some (.ref (43 + 10 + 7 * t)), none, none] [] (zS1, XP m p b, yy) (.inl (some (.int (y_readDeed T e m p t).1))) (zS1, XP ((y_readDeed T e m p t).2.1) ((y_readDeed T e m p t).2.2.1) ((y_readDeed T e m p t).2.2.2), yy) := by
  refine zeP rfl rfl ?_
  refine zeS rfl rfl rfl ?_
  refine zeCV rfl rfl rfl rfl zS128 rfl (yc_readName (s := 2) (T := T) (e := e) (m := m) (p := p) (b := b) hG (by omega) hp) (by omega) ?_
  dsimp only [Option.toList, List.cons_append, List.nil_append]
  refine zeP rfl rfl ?_
  refine zeP rfl rfl ?_
  refine zeB1 rfl rfl (fun h1 => ?_) (fun h1 => ?_)
  · refine zeKn (c := 0) rfl rfl rfl ?_
    exact zeRe rfl rfl rfl rfl (by simp only [y_readDeed, h1, cond_true, cond_false] <;> rfl) (by simp only [y_readDeed, h1, cond_true, cond_false] <;> rfl)
  · refine zeP rfl rfl ?_
    refine zeKn (c := 7) rfl rfl rfl ?_
    refine zeB2 rfl rfl (fun h2 => ?_) (fun h2 => ?_)
    · have hk : (y_readName T e p 2).1 = Int32.ofNat ((y_readName T e p 2).1).toNatClampNeg ∧ ((y_readName T e p 2).1).toNatClampNeg ≤ 7 := (i7_of (by omega) h1 h2)
      refine zeKn (c := ((y_readName T e p 2).1).toNatClampNeg) rfl rfl hk.1 ?_
      refine zeKn (c := 7) rfl rfl rfl ?_
      refine zeB2 rfl rfl (fun h3 => ?_) (fun h3 => ?_)
      · refine zeP rfl rfl ?_
        refine zeS rfl rfl rfl ?_
        refine zeKn (c := ((y_readName T e p 2).1).toNatClampNeg) rfl rfl hk.1 ?_
        refine zeSt (n := 2) (k := (((y_readName T e p 2).1).toNatClampNeg)) hs (by omega) rfl (by show _ < 8; omega) (by decide) ?_
        refine zeS rfl rfl rfl ?_
        refine zeKn (c := ((y_readName T e p 2).1).toNatClampNeg) rfl rfl hk.1 ?_
        refine zeSt (n := 3) (k := (((y_readName T e p 2).1).toNatClampNeg)) hs (by omega) rfl (by show _ < 8; omega) (by decide) ?_
        refine zeCV rfl rfl rfl rfl zS128 rfl (yc_readNumber (lo := ((zla 2).getD ((((y_readName T e p 2).1).toNatClampNeg)) 0)) (hi := ((zla 3).getD ((((y_readName T e p 2).1).toNatClampNeg)) 0)) (T := T) (e := e) (m := m) (p := (y_readName T e p 2).2.1) (b := (y_readName T e p 2).2.2) hG (yname_le (T := T) (s := 2) hG.2.2 hp).1) (by omega) ?_
        dsimp only [Option.toList, List.cons_append, List.nil_append]
        refine zeP rfl rfl ?_
        refine zeP rfl rfl ?_
        refine zeK (v := -1) rfl rfl rfl ?_
        refine zeB2 rfl rfl (fun h4 => ?_) (fun h4 => ?_)
        · refine zeP rfl rfl ?_
          refine zeKn (c := ((y_readName T e p 2).1).toNatClampNeg) rfl rfl hk.1 ?_
          refine zeP rfl rfl ?_
          refine zeCV rfl rfl rfl rfl (shS bb43 (by omega)) rfl (yc_addDeed (m := m) (p := (y_readNumber T e ((y_readName T e p 2).2.1) (((zla 2).getD ((((y_readName T e p 2).1).toNatClampNeg)) 0)) (((zla 3).getD ((((y_readName T e p 2).1).toNatClampNeg)) 0))).2.1) (b := (y_readNumber T e ((y_readName T e p 2).2.1) (((zla 2).getD ((((y_readName T e p 2).1).toNatClampNeg)) 0)) (((zla 3).getD ((((y_readName T e p 2).1).toNatClampNeg)) 0))).2.2) (t := t) (x := (Int32.ofNat (((y_readName T e p 2).1).toNatClampNeg))) (y := (y_readNumber T e ((y_readName T e p 2).2.1) (((zla 2).getD ((((y_readName T e p 2).1).toNatClampNeg)) 0)) (((zla 3).getD ((((y_readName T e p 2).1).toNatClampNeg)) 0))).1) ht hdd) (by omega) ?_
          dsimp only [Option.toList, List.cons_append, List.nil_append]
          refine zeKn (c := 1) rfl rfl rfl ?_
          exact zeRe rfl rfl rfl rfl (by simp only [y_readDeed, h1, h2, h3, h4, cond_true, cond_false] <;> rfl) (by simp only [y_readDeed, h1, h2, h3, h4, cond_true, cond_false] <;> rfl)
        · refine zeKn (c := 0) rfl rfl rfl ?_
          exact zeRe rfl rfl rfl rfl (by simp only [y_readDeed, h1, h2, h3, h4, cond_true, cond_false] <;> rfl) (by simp only [y_readDeed, h1, h2, h3, h4, cond_true, cond_false] <;> rfl)
      · refine zeKn (c := 0) rfl rfl rfl ?_
        refine zeP rfl rfl ?_
        refine zeP rfl rfl ?_
        refine zeP rfl rfl ?_
        refine zeK (v := -1) rfl rfl rfl ?_
        refine zeT2 rfl rfl (show zc2 .ne (Int32.ofNat 0) (-1) = true by decide) ?_
        refine zeP rfl rfl ?_
        refine zeKn (c := ((y_readName T e p 2).1).toNatClampNeg) rfl rfl hk.1 ?_
        refine zeP rfl rfl ?_
        refine zeCV rfl rfl rfl rfl (shS bb43 (by omega)) rfl (yc_addDeed (m := m) (p := (y_readName T e p 2).2.1) (b := (y_readName T e p 2).2.2) (t := t) (x := (Int32.ofNat (((y_readName T e p 2).1).toNatClampNeg))) (y := (Int32.ofNat 0)) ht hdd) (by omega) ?_
        dsimp only [Option.toList, List.cons_append, List.nil_append]
        refine zeKn (c := 1) rfl rfl rfl ?_
        exact zeRe rfl rfl rfl rfl (by simp only [y_readDeed, h1, h2, h3, cond_true, cond_false] <;> rfl) (by simp only [y_readDeed, h1, h2, h3, cond_true, cond_false] <;> rfl)
    · refine zeKn (c := 0) rfl rfl rfl ?_
      exact zeRe rfl rfl rfl rfl (by simp only [y_readDeed, h1, h2, cond_true, cond_false] <;> rfl) (by simp only [y_readDeed, h1, h2, cond_true, cond_false] <;> rfl)
theorem yc_readDeed {σ : Nat → Nat × (Nat → Int32)} {yy : (Nat → Nat → Int64) × Bool × Nat × Nat} {m : Nat → Nat → Int32} {p b : Nat} {T : Nat → Int32} {e : Nat} {t : Nat} (hG : XR m T e) (hp : p ≤ e) (ht : t < 4) (hdd : okm m (43 + 10 + 7 * t) 2 24) (hs : ZS σ) : zF σ 3 1008 [.ref 128, .ref (43 + 10 + 7 * t)] (zS1, XP m p b, yy) (.inl (some (.int (y_readDeed T e m p t).1))) (zS1, XP ((y_readDeed T e m p t).2.1) ((y_readDeed T e m p t).2.2.1) ((y_readDeed T e m p t).2.2.2), yy) := by
  intro d hd
  obtain ⟨d, rfl⟩ : ∃ k, d = k + 1 := ⟨d - 1, by omega⟩
  exact yp_readDeed hd hG hp ht hdd hs
end
section
theorem clearL_ne {b t : Nat} {i l : Nat} (h1 : i ≠ b + 13 + 7 * t) (h2 : i ≠ b + 14 + 7 * t) : ∀ n k (m : Nat → Nat → Int32), xl_clear b t n k m i l = m i l := by
  intro n
  induction n with
  | zero => intro k m; exact close_ne h2
  | succ n ih =>
    intro k m
    unfold xl_clear
    rw [ih]
    exact zx_ne _ _ _ h1
theorem clear_ne {m : Nat → Nat → Int32} {b t i l : Nat} (h : i < b + 10 + 7 * t ∨ b + 17 + 7 * t ≤ i) : x_clear m b t i l = m i l := by
  unfold x_clear
  rw [clearL_ne (by omega) (by omega)]
  simp (disch := omega) only [zx_ne]
theorem clear_2 {m : Nat → Nat → Int32} {b t : Nat} : x_clear m b t (b + 10 + 7 * t) 2 = Int32.ofNat 0 := by
  unfold x_clear
  rw [clearL_ne (by omega) (by omega), zx_nk _ _ (by omega), zx_nk _ _ (by omega), zx_nk _ _ (by omega), zx_nk _ _ (by omega), zx_nk _ _ (by omega), zx_at]
theorem addDeed_ne {m : Nat → Nat → Int32} {b t i l : Nat} {x y : Int32} (h : i < b + 10 + 7 * t ∨ b + 13 + 7 * t ≤ i) : x_addDeed m b t x y i l = m i l := by
  unfold x_addDeed
  refine cndi (fun q : Nat → Nat → Int32 => q i l = m i l) rfl ?_
  simp (disch := omega) only [zx_ne]
theorem addDeed_2 {m : Nat → Nat → Int32} {b t : Nat} {x y : Int32} (h : okm m (b + 10 + 7 * t) 2 24) : okm (x_addDeed m b t x y) (b + 10 + 7 * t) 2 24 := by
  unfold x_addDeed
  refine cnd4 (fun q : Nat → Nat → Int32 => okm q (b + 10 + 7 * t) 2 24) (fun _ => h) (fun h1 => ?_)
  have := h.2
  have := tge_f (by omega) (by omega) h1
  exact okm.is (zx_at _ _ _ _) (by omega) (by omega)
theorem readTerm_YB {T : Nat → Int32} {e : Nat} {m : Nat → Nat → Int32} {p b t : Nat} (hG : XR m T e) (hp : p ≤ e) (hb : b ≤ p) : YB T e (y_readTerm T e m p b t) := by
  have a : ∀ lo hi x, YB T e (Int32.ofNat 1, zm2 m (43 + 3) t x, (y_readNumber T e p lo hi).2.1, (y_readNumber T e p lo hi).2.2) := fun lo hi x => YB.num (hG.put _ (by omega)) hp (Or.inr rfl)
  have c : ∀ lo hi, YB T e (Int32.ofNat 0, m, (y_readNumber T e p lo hi).2.1, (y_readNumber T e p lo hi).2.2) := fun lo hi => YB.num hG hp (Or.inl rfl)
  unfold y_readTerm
  exact cnd4 (YB T e) (fun _ => cnd4 (YB T e) (fun _ => a _ _ _) (fun _ => c _ _)) (fun _ => cnd4 (YB T e) (fun _ => cnd4 (YB T e) (fun _ => a _ _ _) (fun _ => c _ _)) (fun _ => YB.mk hG hp hb (Or.inl rfl)))
theorem readTrustL_XR {T : Nat → Int32} {e : Nat} {v : Int32} : ∀ (n l : Nat) (m : Nat → Nat → Int32), l + n = 4 → XR m T e → XR (yl_readTrust v n l m).2 T e ∧ (yl_readTrust v n l m).1 = 1 := by
  intro n
  induction n with
  | zero => intro l m _ h; exact ⟨h, rfl⟩
  | succ n ih => intro l m hk h; exact ih _ _ (by omega) (h.put _ (by omega))
theorem readTrust_YB {T : Nat → Int32} {e : Nat} {m : Nat → Nat → Int32} {p : Nat} (hG : XR m T e) (hp : p ≤ e) : YB T e (y_readTrust T e m p) := by
  unfold y_readTrust
  refine cnd4 (YB T e) (fun _ => ?_) (fun _ => YB.num hG hp (Or.inl rfl))
  have h := readTrustL_XR (T := T) (e := e) (v := (y_readNumber T e p (Int32.ofNat 0) (Int32.ofNat 15)).1) 4 0 m rfl hG
  exact YB.num h.1 hp (Or.inr h.2)
theorem readWord_YB {T : Nat → Int32} {e : Nat} {m : Nat → Nat → Int32} {p : Nat} (hG : XR m T e) (hp : p ≤ e) : YB T e (y_readWord T e m p) := by
  have h1 := (ynum_le (T := T) (lo := Int32.ofNat 0) (hi := Int32.ofNat 31) hG.2.2 hp).2.1
  unfold y_readWord
  exact cnd4 (YB T e) (fun _ => cnd4 (YB T e) (fun _ => YB.num ((hG.put _ (by omega)).put _ (by omega)) h1 (Or.inr rfl)) (fun _ => YB.num hG h1 (Or.inl rfl))) (fun _ => YB.num hG hp (Or.inl rfl))
theorem readLock_YB {T : Nat → Int32} {e : Nat} {m : Nat → Nat → Int32} {p : Nat} (hG : XR m T e) (hp : p ≤ e) : YB T e (y_readLock T e m p) := by
  have h1 := (ynum_le (T := T) (lo := Int32.ofNat 0) (hi := Int32.ofNat 3) hG.2.2 hp).2.1
  have h2 := yname_le (T := T) (s := 1) hG.2.2 h1
  unfold y_readLock
  refine cnd4 (YB T e) (fun _ => YB.num hG hp (Or.inl rfl)) (fun k1 => cnd4 (YB T e) (fun _ => cnd4 (YB T e) (fun _ => YB.num hG h2.1 (Or.inl rfl)) (fun _ => cnd4 (YB T e) (fun _ => ?_) (fun _ => YB.num hG h2.1 (Or.inl rfl)))) (fun _ => YB.mk hG h2.1 h2.2 (Or.inl rfl)))
  have := ynum_k (by omega) (by omega) (zeq_f k1)
  exact YB.num (hG.put _ (by omega)) h2.1 (Or.inr rfl)
theorem readDeed_YB {T : Nat → Int32} {e : Nat} {m : Nat → Nat → Int32} {p t : Nat} (hG : XR m T e) (hp : p ≤ e) (ht : t < 4) (hdd : okm m (43 + 10 + 7 * t) 2 24) : YB T e (y_readDeed T e m p t) ∧ okm (y_readDeed T e m p t).2.1 (43 + 10 + 7 * t) 2 24 := by
  have h1 := yname_le (T := T) (s := 2) hG.2.2 hp
  have hx : ∀ x y, XR (x_addDeed m 43 t x y) T e := fun x y => hG.same (fun i l a1 a2 => addDeed_ne (by omega))
  have ho : ∀ x y, okm (x_addDeed m 43 t x y) (43 + 10 + 7 * t) 2 24 := fun x y => addDeed_2 hdd
  unfold y_readDeed
  refine cnd4 (fun X => YB T e X ∧ okm X.2.1 (43 + 10 + 7 * t) 2 24) (fun _ => ⟨YB.mk hG h1.1 h1.2 (Or.inl rfl), hdd⟩) (fun _ => cnd4 (fun X => YB T e X ∧ okm X.2.1 (43 + 10 + 7 * t) 2 24) (fun _ => cnd4 (fun X => YB T e X ∧ okm X.2.1 (43 + 10 + 7 * t) 2 24) (fun _ => cnd4 (fun X => YB T e X ∧ okm X.2.1 (43 + 10 + 7 * t) 2 24) (fun _ => ⟨YB.num (hx _ _) h1.1 (Or.inr rfl), ho _ _⟩) (fun _ => ⟨YB.num hG h1.1 (Or.inl rfl), hdd⟩)) (fun _ => ⟨YB.mk (hx _ _) h1.1 h1.2 (Or.inr rfl), ho _ _⟩)) (fun _ => ⟨YB.mk hG h1.1 h1.2 (Or.inl rfl), hdd⟩))
noncomputable def yl_prog (T : (Nat → Int32)) (e : Nat) (t : Nat) : Nat → Nat → (Nat → Nat → Int32) → Nat → Nat → Int32 × (Nat → Nat → Int32) × Nat × Nat
  | 0, k, m, p, b => ((Int32.ofNat 0), m, (lkB T e p), (lkB T e p))
  | n + 1, k, m, p, b => (bif zc1 .ne (y_readDeed T e m p t).1 then (bif zc1 .ne (y_skipSign T e ((lkB T e ((y_readDeed T e m p t).2.2.1))) 44).1 then (yl_prog T e t n ((k + 1)) ((y_readDeed T e m p t).2.1) ((y_skipSign T e ((lkB T e ((y_readDeed T e m p t).2.2.1))) 44).2) ((lkB T e ((y_readDeed T e m p t).2.2.1)))) else ((Int32.ofNat 1), (y_readDeed T e m p t).2.1, (y_skipSign T e ((lkB T e ((y_readDeed T e m p t).2.2.1))) 44).2, (lkB T e ((y_readDeed T e m p t).2.2.1)))) else ((Int32.ofNat 0), (y_readDeed T e m p t).2.1, (y_readDeed T e m p t).2.2.1, (y_readDeed T e m p t).2.2.2))
theorem yw_prog {σ : Nat → Nat × (Nat → Int32)} {yy : (Nat → Nat → Int64) × Bool × Nat × Nat} {T : Nat → Int32} {e : Nat} {t : Nat} {d : Nat} (hd : 4 ≤ d + 1) (ht : t < 4) (hs : ZS σ) : ∀ (n : Nat) (k : Nat) (m : (Nat → Nat → Int32)) (p : Nat) (b : Nat), k + n = 24 → (XR m T e) → (p ≤ e) → (okm m (43 + 10 + 7 * t) 2 24) → zEv σ (d + 1) 1007 47 [some (.ref 128), some (.ref (43 + 10 + 7 * t)), some (.int (Int32.ofNat k))] [] (zS1, XP m p b, yy) (.inl (some (.int (yl_prog T e t n k m p b).1))) (zS1, XP ((yl_prog T e t n k m p b).2.1) ((yl_prog T e t n k m p b).2.2.1) ((yl_prog T e t n k m p b).2.2.2), yy) := by
  intro n
  induction n with
  | zero =>
    intro k m p b hk hG hp hdd
    refine zeP rfl rfl ?_
    refine zeKn (c := 24) rfl rfl rfl ?_
    refine zeT2 rfl rfl (zcge (by omega) (by omega) (by omega)) ?_
    refine zeP rfl rfl ?_
    refine zeCV rfl rfl rfl rfl zS128 rfl (yc_look (m := m) (p := p) (b := b) (T := T) (e := e) hG hp) (by omega) ?_
    dsimp only [Option.toList, List.cons_append, List.nil_append]
    refine zeKn (c := 0) rfl rfl rfl ?_
    exact zeRe rfl rfl rfl rfl (by rfl) (by rfl)
  | succ n ih =>
    intro k m p b hk hG hp hdd
    refine zeP rfl rfl ?_
    refine zeKn (c := 24) rfl rfl rfl ?_
    refine zeF2 rfl rfl (zcge_f (by omega) (by omega) (by omega)) ?_
    refine zeP rfl rfl ?_
    refine zeP rfl rfl ?_
    refine zeCV rfl rfl rfl rfl zS128 rfl (yc_readDeed (t := t) (T := T) (e := e) (m := m) (p := p) (b := b) hG hp ht hdd hs) (by omega) ?_
    dsimp only [Option.toList, List.cons_append, List.nil_append]
    refine zeB1 rfl rfl (fun h1 => ?_) (fun h1 => ?_)
    · refine zeP rfl rfl ?_
      refine zeCV rfl rfl rfl rfl zS128 rfl (yc_look (m := (y_readDeed T e m p t).2.1) (p := (y_readDeed T e m p t).2.2.1) (b := (y_readDeed T e m p t).2.2.2) (T := T) (e := e) (readDeed_YB (t := t) hG hp ht hdd).1.1 (readDeed_YB (t := t) hG hp ht hdd).1.2.1) (by omega) ?_
      dsimp only [Option.toList, List.cons_append, List.nil_append]
      refine zeP rfl rfl ?_
      refine zeKn (c := 44) rfl rfl rfl ?_
      refine zeCV rfl rfl rfl rfl zS128 rfl (yc_skipSign (c := 44) (T := T) (e := e) (m := (y_readDeed T e m p t).2.1) (p := (lkB T e ((y_readDeed T e m p t).2.2.1))) (b := (lkB T e ((y_readDeed T e m p t).2.2.1))) (readDeed_YB (t := t) hG hp ht hdd).1.1 (by have := (lkB_le (T := T) hG.2.2 (readDeed_YB (t := t) hG hp ht hdd).1.2.1).2; have := hG.2.2; omega)) (by omega) ?_
      dsimp only [Option.toList, List.cons_append, List.nil_append]
      refine zeB1 rfl rfl (fun h2 => ?_) (fun h2 => ?_)
      · refine zeInc rfl rfl ?_
        refine zeP rfl rfl ?_
        simp only [yl_prog, h1, h2, cond_true, cond_false]
        exact ih ((k + 1)) ((y_readDeed T e m p t).2.1) ((y_skipSign T e ((lkB T e ((y_readDeed T e m p t).2.2.1))) 44).2) ((lkB T e ((y_readDeed T e m p t).2.2.1))) (by omega) (readDeed_YB (t := t) hG hp ht hdd).1.1 (yskip_le hG.2.2 (lkB_le (T := T) hG.2.2 (readDeed_YB (t := t) hG hp ht hdd).1.2.1).2).2 (readDeed_YB (t := t) hG hp ht hdd).2
      · refine zeKn (c := 1) rfl rfl rfl ?_
        exact zeRe rfl rfl rfl rfl (by simp only [yl_prog, h1, h2, cond_true, cond_false] <;> rfl) (by simp only [yl_prog, h1, h2, cond_true, cond_false] <;> rfl)
    · refine zeKn (c := 0) rfl rfl rfl ?_
      exact zeRe rfl rfl rfl rfl (by simp only [yl_prog, h1, cond_true, cond_false] <;> rfl) (by simp only [yl_prog, h1, cond_true, cond_false] <;> rfl)
theorem zlt_t4 {a b : Nat} (ha : a ≤ 100000) (hb : b ≤ 100000) (h : zc2 .lt (Int32.ofNat a) (Int32.ofNat b) = true) : a < b := by
  have h1 := of_decide_eq_true h
  rw [Int32.lt_iff_toInt_lt, zoN (by omega), zoN (by omega)] at h1
  omega
noncomputable def y_readProgram (T : (Nat → Int32)) (e : Nat) (m : (Nat → Nat → Int32)) (p : Nat) (b : Nat) : Int32 × (Nat → Nat → Int32) × Nat × Nat := (bif zc2 .lt (Int32.ofNat (mv m 43 5)) (Int32.ofNat 4) then (yl_prog T e (((mv m 43 5))) 24 0 ((zm2 ((x_clear m 43 (((mv m 43 5))))) 43 5 (Int32.ofNat ((mv m 43 5) + 1)))) p b) else ((Int32.ofNat 0), m, p, b))
theorem yp_readProgram {σ : Nat → Nat × (Nat → Int32)} {yy : (Nat → Nat → Int64) × Bool × Nat × Nat} {m : Nat → Nat → Int32} {p b : Nat} {T : Nat → Int32} {e : Nat} {d : Nat} (hd : 4 ≤ d + 1) (hG : XR m T e) (hp : p ≤ e) (hc : okm m 43 5 4) (hs : ZS σ) : zEv σ (d + 1) 1007 0 [some (.ref 128), none, none] [] (zS1, XP m p b, yy) (.inl (some (.int (y_readProgram T e m p b).1))) (zS1, XP ((y_readProgram T e m p b).2.1) ((y_readProgram T e m p b).2.2.1) ((y_readProgram T e m p b).2.2.2), yy) := by
  refine zeP rfl rfl ?_
  refine zeGR rfl rfl zS128 rfl rfl ?_
  refine zeXGI (a := 43) (by first | decide | omega) rfl rfl (shM bb43) rfl rfl ?_
  rw [hc.1]
  refine zeKn (c := 4) rfl rfl rfl ?_
  refine zeB2 rfl rfl (fun h1 => ?_) (fun h1 => ?_)
  · have hlt : mv m 43 5 < 4 := zlt_t4 (by have := hc.2; omega) (by omega) h1
    refine zeP rfl rfl ?_
    refine zeGR rfl rfl zS128 rfl rfl ?_
    refine zeP rfl rfl ?_
    refine zeGR rfl rfl zS128 rfl rfl ?_
    refine zeXGI (a := 43) (by first | decide | omega) rfl rfl (shM bb43) rfl rfl ?_
    rw [hc.1]
    refine zeCV rfl rfl rfl rfl (shM bb43) rfl (yc_strandAt (m := m) (p := p) (b := b) (t := (mv m 43 5)) hlt) (by omega) ?_
    dsimp only [Option.toList, List.cons_append, List.nil_append]
    refine zeP rfl rfl ?_
    refine zeP rfl rfl ?_
    refine zeCV rfl rfl rfl rfl (shS bb43 (by omega)) rfl (yc_clear (m := m) (p := p) (b := b) (t := ((mv m 43 5))) hlt) (by omega) ?_
    dsimp only [Option.toList, List.cons_append, List.nil_append]
    refine zeP rfl rfl ?_
    refine zeGR rfl rfl zS128 rfl rfl ?_
    refine zeP rfl rfl ?_
    refine zeXGI (a := 43) (by first | decide | omega) rfl rfl (shM bb43) rfl rfl ?_
    rw [(show (((x_clear m 43 (((mv m 43 5))))) 43 5) = Int32.ofNat (mv m 43 5) from (by rw [clear_ne (by have := zlt_t4 (a := mv m 43 5) (b := 4) (by have := hc.2; omega) (by omega) h1; omega)]; exact hc.1))]
    refine zeKn (c := 1) rfl rfl rfl ?_
    refine zeAdd rfl ?_
    refine zeXPI (a := 43) (by first | decide | omega) rfl rfl (shM bb43) rfl ?_
    refine zeKn (c := 0) rfl rfl rfl ?_
    refine zeP rfl rfl ?_
    simp only [y_readProgram, h1, cond_true, cond_false]
    exact yw_prog (t := ((mv m 43 5))) (T := T) (e := e) (by omega) (zlt_t4 (by have := hc.2; omega) (by omega) h1) hs 24 (0) ((zm2 ((x_clear m 43 (((mv m 43 5))))) 43 5 (Int32.ofNat ((mv m 43 5) + 1)))) p b (by omega) ((hG.same (fun i l a1 a2 => clear_ne (by have := hc.2; omega))).put _ (by omega)) hp (okm.is (n := 0) (by rw [zx_ne _ _ _ (by omega)]; exact clear_2) (by omega) (by omega))
  · refine zeKn (c := 0) rfl rfl rfl ?_
    exact zeRe rfl rfl rfl rfl (by simp only [y_readProgram, h1, cond_true, cond_false] <;> rfl) (by simp only [y_readProgram, h1, cond_true, cond_false] <;> rfl)
theorem yc_readProgram {σ : Nat → Nat × (Nat → Int32)} {yy : (Nat → Nat → Int64) × Bool × Nat × Nat} {m : Nat → Nat → Int32} {p b : Nat} {T : Nat → Int32} {e : Nat} (hG : XR m T e) (hp : p ≤ e) (hc : okm m 43 5 4) (hs : ZS σ) : zF σ 4 1007 [.ref 128] (zS1, XP m p b, yy) (.inl (some (.int (y_readProgram T e m p b).1))) (zS1, XP ((y_readProgram T e m p b).2.1) ((y_readProgram T e m p b).2.2.1) ((y_readProgram T e m p b).2.2.2), yy) := by
  intro d hd
  obtain ⟨d, rfl⟩ : ∃ k, d = k + 1 := ⟨d - 1, by omega⟩
  exact yp_readProgram hd hG hp hc hs
end
