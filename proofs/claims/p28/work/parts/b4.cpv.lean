/-! what a copy of a machine holds -/
theorem zcpy_in {m : Nat → Nat → Int32} {a0 a1 n k : Nat} (h : k < n) : zcpy m a0 a1 0 0 n a1 k = m a0 k := by
  unfold zcpy va_cpy
  rw [if_pos rfl, if_pos ⟨Nat.zero_le _, by omega⟩, show 0 + (k - 0) = k by omega]
/-- the cells of a thread's objects -/
def svc (j k : Nat) : Prop := (j = 0 ∧ 2 ≤ k ∧ k ≤ 7) ∨ (j = 1 ∧ k < 24) ∨ (j = 2 ∧ k < 24) ∨ (j = 3 ∧ k < 5) ∨ (j = 4 ∧ k ≤ 9 ∧ k ≠ 4 ∧ k ≠ 8) ∨ (j = 5 ∧ k < 4) ∨ (j = 6 ∧ k < 32)
section ZCV
variable {m : Nat → Nat → Int32} {b c t : Nat}
theorem guessCp_v4 (hbc : b + 42 ≤ c ∨ c + 42 ≤ b) (ht : t < 4) {k : Nat} (h : k ≤ 9 ∧ k ≠ 4 ∧ k ≠ 8) : x_guessCp m b t c (b + 14 + 7 * t) k = m (c + 14 + 7 * t) k := by
  unfold x_guessCp
  by_cases h9 : k = 9
  · subst h9; rw [zx_at]
  rw [zx_nk _ _ h9, zcpy_ne (by omega)]
  by_cases h7 : k = 7
  · subst h7; rw [zx_at]
  rw [zx_nk _ _ h7]
  by_cases h6 : k = 6
  · subst h6; rw [zx_at]
  rw [zx_nk _ _ h6]
  by_cases h5 : k = 5
  · subst h5; rw [zx_at]
  rw [zx_nk _ _ h5, zcpy_ne (by omega)]
  by_cases h3 : k = 3
  · subst h3; rw [zx_at]
  rw [zx_nk _ _ h3]
  by_cases h2 : k = 2
  · subst h2; rw [zx_at]
  rw [zx_nk _ _ h2]
  by_cases h1 : k = 1
  · subst h1; rw [zx_at]
  rw [zx_nk _ _ h1]
  have h0 : k = 0 := by omega
  subst h0
  rw [zx_at]
theorem guessCp_v5 (hbc : b + 42 ≤ c ∨ c + 42 ≤ b) (ht : t < 4) {k : Nat} (h : k < 4) : x_guessCp m b t c (b + 15 + 7 * t) k = m (c + 15 + 7 * t) k := by
  unfold x_guessCp
  rw [zx_ne _ _ _ (by omega), zcpy_ne (by omega), zx_ne _ _ _ (by omega), zx_ne _ _ _ (by omega), zx_ne _ _ _ (by omega), zcpy_in h]
  simp (disch := omega) only [zx_ne]
theorem guessCp_v6 (hbc : b + 42 ≤ c ∨ c + 42 ≤ b) (ht : t < 4) {k : Nat} (h : k < 32) : x_guessCp m b t c (b + 16 + 7 * t) k = m (c + 16 + 7 * t) k := by
  unfold x_guessCp
  rw [zx_ne _ _ _ (by omega), zcpy_in h]
  simp (disch := omega) only [zx_ne, zcpy_ne]
theorem strandCp_v (hbc : b + 42 ≤ c ∨ c + 42 ≤ b) (ht : t < 4) {j k : Nat} (h : svc j k) : x_strandCp m b t c (b + (10 + j) + 7 * t) k = m (c + (10 + j) + 7 * t) k := by
  unfold x_strandCp
  rcases h with ⟨rfl, h⟩ | ⟨rfl, h⟩ | ⟨rfl, h⟩ | ⟨rfl, h⟩ | ⟨rfl, h⟩ | ⟨rfl, h⟩ | ⟨rfl, h⟩
  · rw [guessCp_ne (by omega), zcpy_ne (by omega)]
    show zm2 _ (b + 10 + 7 * t) 7 _ (b + 10 + 7 * t) k = m (c + 10 + 7 * t) k
    by_cases h7 : k = 7
    · subst h7; rw [zx_at]
    rw [zx_nk _ _ h7]
    by_cases h6 : k = 6
    · subst h6; rw [zx_at]
    rw [zx_nk _ _ h6]
    by_cases h5 : k = 5
    · subst h5; rw [zx_at]
    rw [zx_nk _ _ h5]
    by_cases h4 : k = 4
    · subst h4; rw [zx_at]
    rw [zx_nk _ _ h4]
    by_cases h3 : k = 3
    · subst h3; rw [zx_at]
    rw [zx_nk _ _ h3]
    have h2 : k = 2 := by omega
    subst h2
    rw [zx_at]
  · rw [guessCp_ne (by omega), zcpy_ne (by omega)]
    show zm2 _ (b + 10 + 7 * t) 7 _ (b + 11 + 7 * t) k = m (c + 11 + 7 * t) k
    rw [zx_ne _ _ _ (by omega), zx_ne _ _ _ (by omega), zx_ne _ _ _ (by omega), zx_ne _ _ _ (by omega), zx_ne _ _ _ (by omega), zx_ne _ _ _ (by omega), zcpy_ne (by omega), zcpy_in h]
  · rw [guessCp_ne (by omega), zcpy_ne (by omega)]
    show zm2 _ (b + 10 + 7 * t) 7 _ (b + 12 + 7 * t) k = m (c + 12 + 7 * t) k
    rw [zx_ne _ _ _ (by omega), zx_ne _ _ _ (by omega), zx_ne _ _ _ (by omega), zx_ne _ _ _ (by omega), zx_ne _ _ _ (by omega), zx_ne _ _ _ (by omega), zcpy_in h, zcpy_ne (by omega)]
  · rw [guessCp_ne (by omega)]
    show zcpy _ (c + 13 + 7 * t) (b + 13 + 7 * t) 0 0 5 (b + 13 + 7 * t) k = m (c + 13 + 7 * t) k
    rw [zcpy_in h]
    simp (disch := omega) only [zx_ne, zcpy_ne]
  · show x_guessCp _ b t c (b + 14 + 7 * t) k = m (c + 14 + 7 * t) k
    rw [guessCp_v4 hbc ht h]
    simp (disch := omega) only [zx_ne, zcpy_ne]
  · show x_guessCp _ b t c (b + 15 + 7 * t) k = m (c + 15 + 7 * t) k
    rw [guessCp_v5 hbc ht h]
    simp (disch := omega) only [zx_ne, zcpy_ne]
  · show x_guessCp _ b t c (b + 16 + 7 * t) k = m (c + 16 + 7 * t) k
    rw [guessCp_v6 hbc ht h]
    simp (disch := omega) only [zx_ne, zcpy_ne]
/-- the cells beside the threads that the last part of a copy writes -/
def tvc (o k : Nat) : Prop := (o = 0 ∧ (k = 6 ∨ k = 7 ∨ k = 8 ∨ k = 9 ∨ k = 12)) ∨ (o = 38 ∧ k < 20) ∨ (o = 39 ∧ k < 20) ∨ (o = 40 ∧ (k = 1 ∨ k = 2)) ∨ (o = 41 ∧ k < 240)
theorem copyE_v (hbc : b + 42 ≤ c ∨ c + 42 ≤ b) {n5 q o k : Nat} (h : tvc o k) : xl_copyT b c n5 0 q m (b + o) k = m (c + o) k := by
  unfold xl_copyT x_logCp
  rcases h with ⟨rfl, h⟩ | ⟨rfl, h⟩ | ⟨rfl, h⟩ | ⟨rfl, h⟩ | ⟨rfl, h⟩
  · rw [zx_ne _ _ _ (by omega), zx_ne _ _ _ (by omega), zcpy_ne (by omega)]
    show zm2 _ b 12 _ b k = m c k
    by_cases h12 : k = 12
    · subst h12; rw [zx_at]
    rw [zx_nk _ _ h12, zcpy_ne (by omega), zcpy_ne (by omega)]
    by_cases h9 : k = 9
    · subst h9; rw [zx_at]
    rw [zx_nk _ _ h9]
    by_cases h8 : k = 8
    · subst h8; rw [zx_at]
    rw [zx_nk _ _ h8]
    by_cases h7 : k = 7
    · subst h7; rw [zx_at]
    rw [zx_nk _ _ h7]
    have h6 : k = 6 := by omega
    subst h6
    rw [zx_at]
  · rw [zx_ne _ _ _ (by omega), zx_ne _ _ _ (by omega), zcpy_ne (by omega), zx_ne _ _ _ (by omega), zcpy_ne (by omega), zcpy_in h]
    simp (disch := omega) only [zx_ne, zcpy_ne]
  · rw [zx_ne _ _ _ (by omega), zx_ne _ _ _ (by omega), zcpy_ne (by omega), zx_ne _ _ _ (by omega), zcpy_in h]
    simp (disch := omega) only [zx_ne, zcpy_ne]
  · by_cases h2 : k = 2
    · subst h2
      rw [zx_at]
      simp (disch := omega) only [zx_ne, zcpy_ne]
    · have h1 : k = 1 := by omega
      subst h1
      rw [zx_nk _ _ (by omega), zx_at]
      simp (disch := omega) only [zx_ne, zcpy_ne]
  · rw [zx_ne _ _ _ (by omega), zx_ne _ _ _ (by omega), zcpy_in h]
    simp (disch := omega) only [zx_ne, zcpy_ne]
theorem copyE_ne {n5 q i l : Nat} (h : (i < b ∨ b + 42 ≤ i) ∨ (b < i ∧ i < b + 38) ∨ (i = b ∧ l ≠ 6 ∧ l ≠ 7 ∧ l ≠ 8 ∧ l ≠ 9 ∧ l ≠ 12)) : xl_copyT b c n5 0 q m i l = m i l := by
  unfold xl_copyT x_logCp
  rcases h with h | h | ⟨rfl, h⟩
  · simp (disch := omega) only [zx_ne, zcpy_ne]
  · simp (disch := omega) only [zx_ne, zcpy_ne]
  · rw [zx_ne _ _ _ (by omega), zx_ne _ _ _ (by omega), zcpy_ne (by omega), zx_nk _ _ (by omega), zcpy_ne (by omega), zcpy_ne (by omega), zx_nk _ _ (by omega), zx_nk _ _ (by omega), zx_nk _ _ (by omega), zx_nk _ _ (by omega)]
theorem copyT_ne {n5 : Nat} (hn : n5 ≤ 4) : ∀ (n k : Nat) (m : Nat → Nat → Int32), k + n = n5 → ∀ i l, (i < b ∨ b + 42 ≤ i) ∨ (b < i ∧ i < b + 10 + 7 * k) ∨ (b + 10 + 7 * n5 ≤ i ∧ i < b + 38) ∨ (i = b ∧ l ≠ 6 ∧ l ≠ 7 ∧ l ≠ 8 ∧ l ≠ 9 ∧ l ≠ 12) → xl_copyT b c n5 n k m i l = m i l := by
  intro n
  induction n with
  | zero => intro k m hk i l h; exact copyE_ne (by omega)
  | succ n ih =>
    intro k m hk i l h
    rw [xl_copyT, ih (k + 1) _ (by omega) i l (by omega)]
    exact strandCp_ne (by omega)
theorem copyT_e (hbc : b + 42 ≤ c ∨ c + 42 ≤ b) {n5 : Nat} (hn : n5 ≤ 4) : ∀ (n k : Nat) (m : Nat → Nat → Int32), k + n = n5 → ∀ o l, tvc o l → xl_copyT b c n5 n k m (b + o) l = m (c + o) l := by
  intro n
  induction n with
  | zero => intro k m hk o l h; exact copyE_v hbc h
  | succ n ih =>
    intro k m hk o l h
    have ho : o = 0 ∨ (38 ≤ o ∧ o ≤ 41) := by unfold tvc at h; omega
    rw [xl_copyT, ih (k + 1) _ (by omega) o l h]
    exact strandCp_ne (by omega)
theorem copyT_t (hbc : b + 42 ≤ c ∨ c + 42 ≤ b) {n5 : Nat} (hn : n5 ≤ 4) : ∀ (n k : Nat) (m : Nat → Nat → Int32), k + n = n5 → ∀ t j l, k ≤ t → t < n5 → svc j l → xl_copyT b c n5 n k m (b + (10 + j) + 7 * t) l = m (c + (10 + j) + 7 * t) l := by
  intro n
  induction n with
  | zero => intro k m hk t j l h1 h2; omega
  | succ n ih =>
    intro k m hk t j l h1 h2 h
    have hj : j ≤ 6 := by unfold svc at h; omega
    rw [xl_copyT]
    by_cases e : t = k
    · subst e
      rw [copyT_ne hn n (t + 1) _ (by omega) _ _ (by omega)]
      exact strandCp_v hbc (by omega) h
    · rw [ih (k + 1) _ (by omega) t j l (by omega) h2 h]
      exact strandCp_ne (by omega)
theorem lockCp_v (hbc : b + 42 ≤ c ∨ c + 42 ≤ b) {l k : Nat} (hl : l < 4) (hk : k < 4) : x_lockCp m b l c (b + 5 + l) k = m (c + 5 + l) k := by
  unfold x_lockCp
  by_cases h3 : k = 3
  · subst h3; rw [zx_at]
  rw [zx_nk _ _ h3]
  by_cases h2 : k = 2
  · subst h2; rw [zx_at]
  rw [zx_nk _ _ h2]
  by_cases h1 : k = 1
  · subst h1; rw [zx_at]
  rw [zx_nk _ _ h1]
  have h0 : k = 0 := by omega
  subst h0
  rw [zx_at]
/-- the memory as the threads are copied -/
theorem copyK_is {n5 : Nat} (hn : n5 ≤ 4) (hbc : b + 42 ≤ c ∨ c + 42 ≤ b) : ∀ (n k : Nat) (m : Nat → Nat → Int32), k + n = 4 → ∃ m1, xl_copyK b c n5 n k m = xl_copyT b c n5 n5 0 (zm2 m1 b 5 (Int32.ofNat n5)) ∧ (∀ i l, i < b + 5 + k ∨ b + 9 ≤ i → m1 i l = m i l) ∧ ∀ l q, k ≤ l → l < 4 → q < 4 → m1 (b + 5 + l) q = m (c + 5 + l) q := by
  intro n
  induction n with
  | zero => intro k m hk; exact ⟨m, rfl, fun _ _ _ => rfl, fun l q h1 h2 => absurd h1 (by omega)⟩
  | succ n ih =>
    intro k m hk
    obtain ⟨m1, h1, h2, h3⟩ := ih (k + 1) (x_lockCp m b k c) (by omega)
    refine ⟨m1, by rw [xl_copyK]; exact h1, fun i l h => (h2 i l (by omega)).trans (lockCp_ne (by omega)), fun l q g1 g2 g3 => ?_⟩
    by_cases e : l = k
    · subst e
      exact (h2 _ _ (by omega)).trans (lockCp_v hbc g2 g3)
    · exact (h3 l q (by omega) g2 g3).trans (lockCp_ne (by omega))
/-- all cells of a machine beside the threads' -/
def mvc (o k : Nat) : Prop := tvc o k ∨ (o = 1 ∧ k < 32) ∨ (o = 2 ∧ k < 32) ∨ (o = 3 ∧ k < 9) ∨ (5 ≤ o ∧ o < 9 ∧ k < 4) ∨ (o = 0 ∧ k = 5)
theorem copy_all (hbc : b + 42 ≤ c ∨ c + 42 ≤ b) (h5 : m c 5 = Int32.ofNat (mv m c 5)) (hn : mv m c 5 ≤ 4) : (∀ i l, i < b ∨ b + 42 ≤ i ∨ (b + 10 + 7 * mv m c 5 ≤ i ∧ i < b + 38) → x_copyFrom m b c i l = m i l) ∧ (∀ o k, mvc o k → x_copyFrom m b c (b + o) k = m (c + o) k) ∧ ∀ t j k, t < mv m c 5 → svc j k → x_copyFrom m b c (b + (10 + j) + 7 * t) k = m (c + (10 + j) + 7 * t) k := by
  unfold x_copyFrom
  obtain ⟨m1, h1, h2, h3⟩ := copyK_is (b := b) (c := c) hn hbc 4 0 (zcpy (zcpy (zcpy m (c + 1) (b + 1) 0 0 32) (c + 2) (b + 2) 0 0 32) (c + 3) (b + 3) 0 0 9) rfl
  rw [h1]
  have out : ∀ i l, i ≠ b + 1 → i ≠ b + 2 → i ≠ b + 3 → (i < b + 5 ∨ b + 9 ≤ i) → m1 i l = m i l := by
    intro i l a1 a2 a3 a4
    rw [h2 i l (by omega), zcpy_ne a3, zcpy_ne a2, zcpy_ne a1]
  refine ⟨fun i l h => ?_, fun o k h => ?_, fun t j k ht h => ?_⟩
  · rw [copyT_ne hn _ 0 _ (by omega) i l (by omega), zx_ne _ _ _ (by omega)]
    exact out i l (by omega) (by omega) (by omega) (by omega)
  · rcases h with h | ⟨rfl, h⟩ | ⟨rfl, h⟩ | ⟨rfl, h⟩ | ⟨h4, h9, h⟩ | ⟨rfl, rfl⟩
    · rw [copyT_e hbc hn _ 0 _ (by omega) o k h]
      have ho : o = 0 ∨ (38 ≤ o ∧ o ≤ 41) := by unfold tvc at h; omega
      rw [zx_ne _ _ _ (by omega)]
      exact out _ _ (by omega) (by omega) (by omega) (by omega)
    · rw [copyT_ne hn _ 0 _ (by omega) _ _ (by omega), zx_ne _ _ _ (by omega), h2 _ _ (by omega), zcpy_ne (by omega), zcpy_ne (by omega), zcpy_in h]
    · rw [copyT_ne hn _ 0 _ (by omega) _ _ (by omega), zx_ne _ _ _ (by omega), h2 _ _ (by omega), zcpy_ne (by omega), zcpy_in h, zcpy_ne (by omega)]
    · rw [copyT_ne hn _ 0 _ (by omega) _ _ (by omega), zx_ne _ _ _ (by omega), h2 _ _ (by omega), zcpy_in h, zcpy_ne (by omega), zcpy_ne (by omega)]
    · obtain ⟨l, rfl⟩ : ∃ l, o = 5 + l := ⟨o - 5, by omega⟩
      rw [copyT_ne hn _ 0 _ (by omega) _ _ (by omega), zx_ne _ _ _ (by omega), ← Nat.add_assoc, h3 l k (by omega) (by omega) h, ← Nat.add_assoc, zcpy_ne (by omega), zcpy_ne (by omega), zcpy_ne (by omega)]
    · show xl_copyT b c (mv m c 5) (mv m c 5) 0 _ b 5 = m c 5
      rw [copyT_ne hn _ 0 _ (by omega) _ _ (by omega), zx_at]
      exact h5.symm
  · have hj : j ≤ 6 := by unfold svc at h; omega
    rw [copyT_t hbc hn _ 0 _ (by omega) t j k (Nat.zero_le _) ht h, zx_ne _ _ _ (by omega)]
    exact out _ _ (by omega) (by omega) (by omega) (by omega)
theorem CG.copy (hbc : b + 42 ≤ c ∨ c + 42 ≤ b) (hb : CG m b) (hc : CG m c) : CG (x_copyFrom m b c) b := by
  obtain ⟨h1, h2, h3⟩ := copy_all hbc hc.c hc.c4
  have key : ∀ {a k hi a'}, okm m a' k hi → x_copyFrom m b c a k = m a' k → okm (x_copyFrom m b c) a k hi := by
    intro a k hi a' h e
    unfold okm mv at *
    rw [e]; exact h
  refine ⟨key hc.1 (h2 40 2 (by unfold mvc tvc; omega)), key hc.2.1 (h2 0 5 (by unfold mvc tvc; omega)), fun t ht => ?_, key hc.2.2.2.1 (h2 0 12 (by unfold mvc tvc; omega)), fun l hl => ?_⟩
  · by_cases e : t < mv m c 5
    · exact ⟨key (hc.2.2.1 t ht).1 (h3 t 4 5 e (by unfold svc; omega)), fun k hk => key ((hc.2.2.1 t ht).2 k hk) (h3 t 5 k e (by unfold svc; omega))⟩
    · exact ⟨(hb.2.2.1 t ht).1.of (h1 _ _ (by omega)), fun k hk => ((hb.2.2.1 t ht).2 k hk).of (h1 _ _ (by omega))⟩
  · have e := h2 (5 + l) 0 (by unfold mvc tvc; omega)
    rw [← Nat.add_assoc, ← Nat.add_assoc] at e
    exact key (hc.2.2.2.2 l hl) e
theorem KX.copy (hbc : b + 42 ≤ c ∨ c + 42 ≤ b) (hb : KX m b P0) (hk : KX m c P0) (hc : CG m c) : KX (x_copyFrom m b c) b P0 := by
  obtain ⟨h1, h2, h3⟩ := copy_all hbc hc.c hc.c4
  refine ⟨fun t ht => ?_, ?_, fun _ _ q => absurd q id⟩
  · by_cases e : t < mv m c 5
    · have e2 : x_copyFrom m b c (b + 10 + 7 * t) 2 = m (c + 10 + 7 * t) 2 := h3 t 0 2 e (by unfold svc; omega)
      have e3 : x_copyFrom m b c (b + 10 + 7 * t) 3 = m (c + 10 + 7 * t) 3 := h3 t 0 3 e (by unfold svc; omega)
      have g0 : x_copyFrom m b c (b + 14 + 7 * t) 0 = m (c + 14 + 7 * t) 0 := h3 t 4 0 e (by unfold svc; omega)
      have g1 : x_copyFrom m b c (b + 14 + 7 * t) 1 = m (c + 14 + 7 * t) 1 := h3 t 4 1 e (by unfold svc; omega)
      have eK : ∀ p, p < 24 → x_copyFrom m b c (b + 11 + 7 * t) p = m (c + 11 + 7 * t) p := fun p hp => h3 t 1 p e (by unfold svc; omega)
      have eN : ∀ p, p < 24 → x_copyFrom m b c (b + 12 + 7 * t) p = m (c + 12 + 7 * t) p := fun p hp => h3 t 2 p e (by unfold svc; omega)
      have hD := hk.1 t ht
      unfold DT okm mv at hD ⊢
      rw [e2, e3, g0, g1]
      refine ⟨hD.1, hD.2.1, hD.2.2.1, hD.2.2.2.1, fun p hp => ?_⟩
      rw [eK p hp, eN p hp]
      exact hD.2.2.2.2 p hp
    · exact (hb.1 t ht).of (h1 _ _ (by omega)) ((hb.1 t ht).2.1.of (h1 _ _ (by omega))) ((hb.1 t ht).2.2.1.of (h1 _ _ (by omega))) (by rw [h1 _ _ (by omega)]; exact (hb.1 t ht).2.2.2.1) (fun p => h1 _ _ (by omega)) (fun p => h1 _ _ (by omega))
  · have e : x_copyFrom m b c b 8 = m c 8 := h2 0 8 (by unfold mvc tvc; omega)
    have h := hk.2.1
    unfold LTC ltc at h ⊢
    rw [e]
    exact h
end ZCV
