/-! the class's machine is in order -/
def okm (m : Nat → Nat → Int32) (a k hi : Nat) : Prop := m a k = Int32.ofNat (mv m a k) ∧ mv m a k ≤ hi
theorem okm.of {m m' : Nat → Nat → Int32} {a k hi : Nat} (h : okm m a k hi) (e : m' a k = m a k) : okm m' a k hi := by
  unfold okm mv at *
  rw [e]; exact h
theorem okm.is {m : Nat → Nat → Int32} {a k hi n : Nat} (e : m a k = Int32.ofNat n) (h : n ≤ hi) (h2 : n < 2147483648) : okm m a k hi := by
  unfold okm mv
  rw [e, nv_on h2]
  exact ⟨rfl, h⟩
def CG (m : Nat → Nat → Int32) (b : Nat) : Prop := okm m (b + 40) 2 59 ∧ okm m b 5 4 ∧ (∀ t, t < 4 → okm m (b + 14 + 7 * t) 5 4 ∧ ∀ k, k < 4 → okm m (b + 15 + 7 * t) k 3) ∧ okm m b 12 20 ∧ ∀ l, l < 4 → okm m (b + 5 + l) 0 31
/-- the cells that the order speaks of -/
def CGc (b a k : Nat) : Prop := (a = b + 40 ∧ k = 2) ∨ (a = b ∧ (k = 5 ∨ k = 12)) ∨ (∃ t, t < 4 ∧ ((a = b + 14 + 7 * t ∧ k = 5) ∨ a = b + 15 + 7 * t)) ∨ ∃ l, l < 4 ∧ a = b + 5 + l ∧ k = 0
theorem CG.same {m m' : Nat → Nat → Int32} {b : Nat} (h : CG m b) (e : ∀ a k, CGc b a k → m' a k = m a k) : CG m' b :=
  ⟨h.1.of (e _ _ (Or.inl ⟨rfl, rfl⟩)), h.2.1.of (e _ _ (Or.inr (Or.inl ⟨rfl, Or.inl rfl⟩))), fun t ht => ⟨(h.2.2.1 t ht).1.of (e _ _ (Or.inr (Or.inr (Or.inl ⟨t, ht, Or.inl ⟨rfl, rfl⟩⟩)))), fun k hk => ((h.2.2.1 t ht).2 k hk).of (e _ _ (Or.inr (Or.inr (Or.inl ⟨t, ht, Or.inr rfl⟩))))⟩, h.2.2.2.1.of (e _ _ (Or.inr (Or.inl ⟨rfl, Or.inr rfl⟩))), fun l hl => (h.2.2.2.2 l hl).of (e _ _ (Or.inr (Or.inr (Or.inr ⟨l, hl, rfl, rfl⟩))))⟩
theorem zx_o (m : Nat → Nat → Int32) {a k i l : Nat} (x : Int32) (h : ¬ (i = a ∧ l = k)) : zm2 m a k x i l = m i l := by
  by_cases hi : i = a
  · subst hi
    exact zx_nk _ _ (fun e => h ⟨rfl, e⟩)
  · exact zx_ne _ _ _ hi
theorem CG.put {m : Nat → Nat → Int32} {b a k : Nat} (h : CG m b) (x : Int32) (hf : ¬ CGc b a k) : CG (zm2 m a k x) b := h.same (fun i l hc => zx_o _ _ (fun e => hf (by rw [← e.1, ← e.2]; exact hc)))
theorem CG.n {m : Nat → Nat → Int32} {b : Nat} (h : CG m b) : m (b + 40) 2 = Int32.ofNat (mv m (b + 40) 2) := h.1.1
theorem CG.n60 {m : Nat → Nat → Int32} {b : Nat} (h : CG m b) : mv m (b + 40) 2 < 60 := Nat.lt_succ_of_le h.1.2
theorem CG.c {m : Nat → Nat → Int32} {b : Nat} (h : CG m b) : m b 5 = Int32.ofNat (mv m b 5) := h.2.1.1
theorem CG.c4 {m : Nat → Nat → Int32} {b : Nat} (h : CG m b) : mv m b 5 ≤ 4 := h.2.1.2
theorem CG.l {m : Nat → Nat → Int32} {b t : Nat} (h : CG m b) (ht : t < 4) : m (b + 15 + 7 * t) 0 = Int32.ofNat (mv m (b + 15 + 7 * t) 0) := ((h.2.2.1 t ht).2 0 (by omega)).1
theorem CG.l4 {m : Nat → Nat → Int32} {b t : Nat} (h : CG m b) (ht : t < 4) : mv m (b + 15 + 7 * t) 0 < 4 := Nat.lt_succ_of_le ((h.2.2.1 t ht).2 0 (by omega)).2
theorem CG.q {m : Nat → Nat → Int32} {b t : Nat} (h : CG m b) (ht : t < 4) : m (b + 14 + 7 * t) 5 = Int32.ofNat (mv m (b + 14 + 7 * t) 5) := (h.2.2.1 t ht).1.1
theorem CG.q4 {m : Nat → Nat → Int32} {b t : Nat} (h : CG m b) (ht : t < 4) : mv m (b + 14 + 7 * t) 5 ≤ 4 := (h.2.2.1 t ht).1.2
theorem CG.w {m : Nat → Nat → Int32} {b l : Nat} (h : CG m b) (hl : l < 4) : okm m (b + 5 + l) 0 31 := h.2.2.2.2 l hl
theorem CG.of {m m' : Nat → Nat → Int32} {b : Nat} (h : CG m b) (e1 : okm m' (b + 40) 2 59) (e2 : m' b 5 = m b 5) (e3 : ∀ t, t < 4 → okm m' (b + 14 + 7 * t) 5 4) (e4 : ∀ t, t < 4 → ∀ k, k < 4 → m' (b + 15 + 7 * t) k = m (b + 15 + 7 * t) k) (e5 : m' b 12 = m b 12) (e6 : ∀ l, l < 4 → m' (b + 5 + l) 0 = m (b + 5 + l) 0) : CG m' b :=
  ⟨e1, h.2.1.of e2, fun t ht => ⟨e3 t ht, fun k hk => ((h.2.2.1 t ht).2 k hk).of (e4 t ht k hk)⟩, h.2.2.2.1.of e5, fun l hl => (h.2.2.2.2 l hl).of (e6 l hl)⟩
theorem lose_0 {m : Nat → Nat → Int32} {b t i : Nat} {x : Int32} : x_lose m b t x i 0 = m i 0 := by
  unfold x_lose
  exact cndi (fun q : Nat → Nat → Int32 => q i 0 = m i 0) (zx_o _ _ (fun e => absurd e.2 (by omega))) (zx_o _ _ (fun e => absurd e.2 (by omega)))
theorem logAdd_2 {m : Nat → Nat → Int32} {b : Nat} {t u w v : Int32} (h : mv m (b + 40) 2 < 60) : okm (x_logAdd m b t u w v) (b + 40) 2 59 := by
  unfold x_logAdd
  have hm : (mv m (b + 40) 2 + 1) % 60 < 60 := Nat.mod_lt _ (by omega)
  refine cndi (fun q : Nat → Nat → Int32 => okm q (b + 40) 2 59) ?_ ?_
  · exact okm.is (zx_at _ _ _ _) (by omega) (by omega)
  · refine okm.is (n := (mv m (b + 40) 2 + 1) % 60) ?_ (by omega) (by omega)
    rw [zx_nk _ _ (by omega), zx_at]
theorem logAdd_ne {m : Nat → Nat → Int32} {b i l : Nat} {t u w v : Int32} (h1 : i ≠ b + 40) (h2 : i ≠ b + 41) : x_logAdd m b t u w v i l = m i l := by
  unfold x_logAdd
  refine cndi (fun q : Nat → Nat → Int32 => q i l = m i l) ?_ ?_
  · rw [zx_ne _ _ _ h1, zx_ne _ _ _ h2, zx_ne _ _ _ h2, zx_ne _ _ _ h2, zx_ne _ _ _ h2]
  · rw [zx_ne _ _ _ h1, zx_ne _ _ _ h1, zx_ne _ _ _ h2, zx_ne _ _ _ h2, zx_ne _ _ _ h2, zx_ne _ _ _ h2]
theorem close_5 {m : Nat → Nat → Int32} {b t : Nat} : x_close m b t (b + 14 + 7 * t) 5 = Int32.ofNat 0 := by
  unfold x_close
  rw [zx_nk _ _ (by omega), zx_nk _ _ (by omega), zx_nk _ _ (by omega), zx_at]
theorem CG.fall {m : Nat → Nat → Int32} {b t y : Nat} (h : CG m b) (ht : t < 4) (hy : y < 5) : CG (x_fall m b t y).2 b := by
  have hl := h.l4 ht
  unfold x_fall
  dsimp only
  refine h.of (logAdd_2 (zxb (by simp (disch := omega) only [close_ne, lose_ne, zx_ne]) h.n60)) ?_ (fun u hu => ?_) (fun u hu k hk => ?_) ?_ (fun u hu => ?_)
  · rw [logAdd_ne (by omega) (by omega), close_ne (by omega), lose_ne (by omega)]
    simp (disch := omega) only [zx_ne]
  · by_cases hut : u = t
    · subst hut
      refine okm.is (n := 0) ?_ (by omega) (by omega)
      rw [logAdd_ne (by omega) (by omega)]
      exact close_5
    · refine (h.2.2.1 u hu).1.of ?_
      rw [logAdd_ne (by omega) (by omega), close_ne (by omega), lose_ne (by omega)]
      simp (disch := omega) only [zx_ne]
  · rw [logAdd_ne (by omega) (by omega), close_ne (by omega), lose_ne (by omega)]
    simp (disch := omega) only [zx_ne]
  · rw [logAdd_ne (by omega) (by omega), close_ne (by omega), lose_ne (by omega)]
    simp (disch := omega) only [zx_ne]
  · rw [logAdd_ne (by omega) (by omega), close_ne (by omega), lose_0]
    simp (disch := omega) only [zx_ne]
theorem CG.logAdd {m : Nat → Nat → Int32} {b : Nat} (h : CG m b) (t u w v : Int32) : CG (x_logAdd m b t u w v) b :=
  h.of (logAdd_2 h.n60) (logAdd_ne (by omega) (by omega)) (fun u hu => (h.2.2.1 u hu).1.of (logAdd_ne (by omega) (by omega))) (fun u hu k hk => logAdd_ne (by omega) (by omega)) (logAdd_ne (by omega) (by omega)) (fun l hl => logAdd_ne (by omega) (by omega))
theorem CG.close {m : Nat → Nat → Int32} {b t : Nat} (h : CG m b) (ht : t < 4) : CG (x_close m b t) b := by
  refine h.of (h.1.of (close_ne (by omega))) (close_ne (by omega)) (fun u hu => ?_) (fun u hu k hk => close_ne (by omega)) (close_ne (by omega)) (fun l hl => close_ne (by omega))
  by_cases hut : u = t
  · subst hut
    exact okm.is close_5 (by omega) (by omega)
  · exact (h.2.2.1 u hu).1.of (close_ne (by omega))
