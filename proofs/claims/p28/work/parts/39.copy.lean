/-! the reference's copies of a row -/
def zcpm (m : Nat → Nat → Int32) (a b t : Nat) : Nat → Nat → Int32 := fun i k => if i = b ∧ k < t then m a k else m i k
theorem zcpm_step (m : Nat → Nat → Int32) {a b : Nat} (hab : a ≠ b) (t : Nat) : zm2 (zcpm m a b t) b t (zcpm m a b t a t) = zcpm m a b (t + 1) := by
  funext i k
  unfold zm2 zcpm upd
  have e1 : (if a = b ∧ t < t then m a t else m a t) = m a t := by split <;> rfl
  rw [e1]
  by_cases hi : i = b
  · subst hi
    rw [if_pos rfl]
    try dsimp only
    by_cases hk : k = t
    · subst hk
      rw [if_pos rfl, if_pos ⟨rfl, Nat.lt_succ_self _⟩]
    · rw [if_neg hk]
      by_cases hl : k < t
      · rw [if_pos ⟨rfl, hl⟩, if_pos ⟨rfl, Nat.lt_succ_of_lt hl⟩]
      · rw [if_neg (fun q => hl q.2), if_neg (fun q => by omega)]
  · rw [if_neg hi]
    try dsimp only
    rw [if_neg (fun q => hi q.1), if_neg (fun q => hi q.1)]
theorem z788 : (Int16.ofInt 788).toInt32.toInt = 788 := by decide +kernel
theorem zi31 {t : Nat} (h : t < 789) : t < 2 ^ 31 := Nat.lt_trans h (by decide)
theorem zcpc {t : Nat} (h : t < 788) : zc2 .ge (Int32.ofNat t) (Int16.ofInt 788).toInt32 = false := by
  unfold zc2
  apply decide_eq_false
  rw [Int32.le_iff_toInt_le, z788, Int32.toInt_ofNat_of_lt (zi31 (by omega))]
  omega
theorem zcpo {t : Nat} (h : t < 788) : zoutB (Int32.ofNat t) 788 = false := by
  unfold zoutB
  rw [Bool.or_eq_false_iff]
  constructor
  · apply decide_eq_false
    rw [Int32.lt_iff_toInt_lt, Int32.toInt_zero, Int32.toInt_ofNat_of_lt (zi31 (by omega))]
    omega
  · apply decide_eq_false
    rw [Int32.toNatClampNeg_ofNat_of_lt (zi31 (by omega))]
    omega
theorem zcpi (t : Nat) (_ : t < 788) : Int32.ofNat t + Int32.ofInt 1 = Int32.ofNat (t + 1) := by
  rw [Int32.ofNat_add]
  rfl
theorem zcp_loop {σ : Nat → Nat × (Nat → Int32)} {d a b : Nat} {S : List (Nat × Nat × List Nat)} {m : Nat → Nat → Int32} {y : (Nat → Nat → Int64) × Bool × Nat × Nat} {ra rb : List Nat} (hab : a ≠ b) (ha : Nat.blt a 1000 = true) (hA : S[a]? = some (10, 788, ra)) (hB : S[b]? = some (10, 788, rb)) : ∀ (n t : Nat), t + n = 788 → zEv σ d 1806 2 [some (.ref a), some (.ref b), some (.int (Int32.ofNat t))] [] (S, zcpm m a b t, y) (.inl none) (S, zcpm m a b 788, y) := by
  intro n
  induction n with
  | zero =>
    intro t ht
    have ht' : t = 788 := by omega
    subst ht'
    refine zeP (i := .iload_n 2) (len := 1) rfl rfl ?_
    refine zeP (i := .sipush 788) (len := 3) rfl rfl ?_
    refine zeP (i := .if_icmp .ge 15) (len := 3) (pc' := 21) (lv' := [some (.ref a), some (.ref b), some (.int (Int32.ofNat 788))]) (st' := []) rfl ?_ ?_
    · have h1 : zc2 .ge (Int32.ofNat 788) (Int16.ofInt 788).toInt32 = true := by decide +kernel
      show zbr (zc2 .ge (Int32.ofNat 788) (Int16.ofInt 788).toInt32) 6 15 [some (.ref a), some (.ref b), some (.int (Int32.ofNat 788))] [] = _
      unfold zbr
      rw [h1]
      rfl
    · exact zeR (i := .return_) (len := 1) rfl rfl rfl rfl
  | succ n ih =>
    intro t ht
    have hlt : t < 788 := by omega
    have hc := zcpc hlt
    have ho := zcpo hlt
    have hk : (Int32.ofNat t).toNatClampNeg = t := Int32.toNatClampNeg_ofNat_of_lt (zi31 (by omega))
    refine zeP (i := .iload_n 2) (len := 1) rfl rfl ?_
    refine zeP (i := .sipush 788) (len := 3) rfl rfl ?_
    refine zeP (i := .if_icmp .ge 15) (len := 3) (pc' := 9) (lv' := [some (.ref a), some (.ref b), some (.int (Int32.ofNat t))]) (st' := []) rfl ?_ ?_
    · show zbr (zc2 .ge (Int32.ofNat t) (Int16.ofInt 788).toInt32) 6 15 [some (.ref a), some (.ref b), some (.int (Int32.ofNat t))] [] = _
      unfold zbr
      rw [hc]
      rfl
    refine zeP (i := .aload_n 1) (len := 1) rfl rfl ?_
    refine zeP (i := .iload_n 2) (len := 1) rfl rfl ?_
    refine zeP (i := .aload_n 0) (len := 1) rfl rfl ?_
    refine zeP (i := .iload_n 2) (len := 1) rfl rfl ?_
    refine zeS (i := .iaload) (len := 1) (pc' := 14) (st' := [.int (zcpm m a b t a t), .int (Int32.ofNat t), .ref b]) (M1 := (S, zcpm m a b t, y)) rfl rfl ?_ ?_
    · simp only [zS, ziald, ha, cond_true, hA, beq_self_eq_true, ho, Bool.not_false, Bool.and_self, hk]
    refine zeS (i := .iastore) (len := 1) (pc' := 15) (st' := []) (M1 := (S, zcpm m a b (t + 1), y)) rfl rfl ?_ ?_
    · simp only [zS, ziast, hB, beq_self_eq_true, ho, Bool.not_false, Bool.and_self, cond_true, hk, zcpm_step m hab t]
    refine zeP (i := .iinc 2 1) (len := 3) (pc' := 18) (lv' := [some (.ref a), some (.ref b), some (.int (Int32.ofNat (t + 1)))]) (st' := []) rfl ?_ ?_
    · rw [← zcpi t hlt]
      rfl
    refine zeP (i := .goto (-16)) (len := 3) rfl rfl ?_
    exact ih (t + 1) (by omega)
theorem zcp_all {σ : Nat → Nat × (Nat → Int32)} {d a b : Nat} {S : List (Nat × Nat × List Nat)} {m : Nat → Nat → Int32} {y : (Nat → Nat → Int64) × Bool × Nat × Nat} {ra rb : List Nat} (hab : a ≠ b) (ha : Nat.blt a 1000 = true) (hA : S[a]? = some (10, 788, ra)) (hB : S[b]? = some (10, 788, rb)) : zCal σ d 1806 [.ref a, .ref b] (S, m, y) (.inl none) (S, zcpm m a b 788, y) := by
  have h0 : zcpm m a b 0 = m := by
    funext i k
    unfold zcpm
    rw [if_neg (fun q => Nat.not_lt_zero _ q.2)]
  have h1 := zcp_loop (σ := σ) (d := d) (m := m) (y := y) hab ha hA hB 788 0 rfl
  rw [h0] at h1
  show zEv σ d 1806 0 [some (.ref a), some (.ref b), none] [] _ _ _
  refine zeP (i := .iconst 0) (len := 1) rfl rfl ?_
  refine zeP (i := .istore_n 2) (len := 1) (pc' := 2) (lv' := [some (.ref a), some (.ref b), some (.int (Int32.ofNat 0))]) (st' := []) rfl ?_ h1
  rfl
