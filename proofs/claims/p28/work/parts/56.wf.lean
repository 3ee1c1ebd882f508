/-! a world that is in order -/
def ok (W : Nat → Int32) (k lo hi : Nat) : Prop := W k = Int32.ofNat (nv W k) ∧ lo ≤ nv W k ∧ nv W k ≤ hi
theorem ok.of {W V : Nat → Int32} {k lo hi : Nat} (h : ok W k lo hi) (e : V k = W k) : ok V k lo hi := by
  unfold ok nv at *
  rw [e]; exact h
theorem ok.is {W : Nat → Int32} {k lo hi n : Nat} (e : W k = Int32.ofNat n) (h1 : lo ≤ n) (h2 : n ≤ hi) (h3 : n < 2147483648) : ok W k lo hi := by
  unfold ok nv
  rw [e, nv_on h3]
  exact ⟨rfl, h1, h2⟩
theorem ok.ne {W : Nat → Int32} {k lo hi : Nat} (h : ok W k lo hi) (hl : 1 ≤ lo) (hh : hi < 2147483648) : ¬ W k = 0 := by
  intro e
  have h1 := h.2.1
  unfold nv at h1
  rw [e] at h1
  have h2 : (0 : Int32).toNatClampNeg = 0 := by decide
  omega
def DG (W : Nat → Int32) (t p : Nat) : Prop := ok W (376 + 103 * t + (55 + 2 * p)) 0 7 ∧ ok W (376 + 103 * t + (55 + 2 * p + 1)) 0 999 ∧ (nv W (376 + 103 * t + (55 + 2 * p)) ≤ 1 → nv W (376 + 103 * t + (55 + 2 * p + 1)) ≤ 3) ∧ (nv W (376 + 103 * t + (55 + 2 * p)) ≤ 3 → nv W (376 + 103 * t + (55 + 2 * p + 1)) ≤ 31)
def TG (W : Nat → Int32) (t : Nat) : Prop := ok W (376 + 103 * t + 2) 0 1 ∧ ok W (376 + 103 * t + 10) 0 4 ∧ (∀ k, k < 4 → ok W (376 + 103 * t + (11 + k)) 0 3) ∧ ok W (376 + 103 * t + 22) 0 24 ∧ ok W (376 + 103 * t + 0) 0 (nv W (376 + 103 * t + 22)) ∧ ok W (376 + 103 * t + 18) 0 (nv W (376 + 103 * t + 22) - 1) ∧ (W (376 + 103 * t + 2) = Int32.ofNat 0 → W (376 + 103 * t + 10) = Int32.ofNat 0) ∧ ∀ p, p < 24 → DG W t p
def GG (W : Nat → Int32) : Prop := ok W 0 1 8 ∧ ok W 2 1 4 ∧ ok W 7 1 9 ∧ ok W 9 0 4 ∧ ok W 14 0 20 ∧ ok W 15 0 60 ∧ ∀ l, l < 4 → ok W (16 + l) 0 31
def WG (W : Nat → Int32) : Prop := GG W ∧ ∀ t, t < 4 → TG W t
def cT (c : Nat) : Prop := (11 ≤ c ∧ c ≤ 14) ∨ c = 18 ∨ c = 22 ∨ 55 ≤ c
theorem DG.of {W V : Nat → Int32} {t p : Nat} (h : DG W t p) (e1 : V (376 + 103 * t + (55 + 2 * p)) = W (376 + 103 * t + (55 + 2 * p))) (e2 : V (376 + 103 * t + (55 + 2 * p + 1)) = W (376 + 103 * t + (55 + 2 * p + 1))) : DG V t p := by
  unfold DG at *
  rw [nv_of e1, nv_of e2]
  exact ⟨h.1.of e1, h.2.1.of e2, h.2.2⟩
theorem TG.of {W V : Nat → Int32} {t : Nat} (h : TG W t) (e : ∀ c, c < 103 → cT c → V (376 + 103 * t + c) = W (376 + 103 * t + c)) (h2 : ok V (376 + 103 * t + 2) 0 1) (h10 : ok V (376 + 103 * t + 10) 0 4) (h0 : ok V (376 + 103 * t + 0) 0 (nv W (376 + 103 * t + 22))) (hr : V (376 + 103 * t + 2) = Int32.ofNat 0 → V (376 + 103 * t + 10) = Int32.ofNat 0) : TG V t := by
  obtain ⟨-, -, a3, a4, -, a6, -, a8⟩ := h
  have e22 := e 22 (by omega) (by unfold cT; omega)
  refine ⟨h2, h10, fun k hk => (a3 k hk).of (e _ (by omega) (by unfold cT; omega)), a4.of e22, ?_, ?_, hr, fun p hp => (a8 p hp).of (e _ (by omega) (by unfold cT; omega)) (e _ (by omega) (by unfold cT; omega))⟩
  · rw [nv_of e22]; exact h0
  · rw [nv_of e22]; exact a6.of (e 18 (by omega) (by unfold cT; omega))
theorem TG.same {W V : Nat → Int32} {t : Nat} (h : TG W t) (e : ∀ c, c < 103 → c = 0 ∨ c = 2 ∨ c = 10 ∨ cT c → V (376 + 103 * t + c) = W (376 + 103 * t + c)) : TG V t := by
  refine h.of (fun c hc h1 => e c hc (Or.inr (Or.inr (Or.inr h1)))) (h.1.of (e 2 (by omega) (by omega))) (h.2.1.of (e 10 (by omega) (by omega))) (h.2.2.2.2.1.of (e 0 (by omega) (by omega))) ?_
  rw [e 2 (by omega) (by omega), e 10 (by omega) (by omega)]
  exact h.2.2.2.2.2.2.1
theorem WG.C {W : Nat → Int32} (h : WG W) : WC W := ⟨h.1.2.2.2.2.2.1.1, h.1.2.2.2.2.2.1.2.2⟩
theorem WG.N {W : Nat → Int32} (h : WG W) : W 9 = Int32.ofNat (nv W 9) := h.1.2.2.2.1.1
theorem WG.N4 {W : Nat → Int32} (h : WG W) : nv W 9 ≤ 4 := h.1.2.2.2.1.2.2
theorem WG.L {W : Nat → Int32} (h : WG W) : WL W := fun t ht => ⟨((h.2 t ht).2.2.1 0 (by omega)).1, Nat.lt_succ_of_le ((h.2 t ht).2.2.1 0 (by omega)).2.2⟩
theorem WG.Z {W : Nat → Int32} (h : WG W) : ¬ W 0 = 0 := h.1.1.ne (by omega) (by omega)
theorem WG.H {W : Nat → Int32} (h : WG W) : ¬ W 7 = 0 := h.1.2.2.1.ne (by omega) (by omega)
/-- cells that no order speaks of -/
def fre (k : Nat) : Prop := k < 788 ∧ k ≠ 0 ∧ k ≠ 2 ∧ k ≠ 7 ∧ k ≠ 9 ∧ k ≠ 14 ∧ k ≠ 15 ∧ ¬ (16 ≤ k ∧ k < 20) ∧ ∀ t, t < 4 → ∀ c, c < 103 → k = 376 + 103 * t + c → ¬ (c = 0 ∨ c = 2 ∨ c = 10 ∨ cT c)
theorem GG.of {W V : Nat → Int32} (h : GG W) (e : ∀ k, k < 20 → k = 0 ∨ k = 2 ∨ k = 7 ∨ k = 9 ∨ k = 14 ∨ 16 ≤ k → V k = W k) (hC : WC V) : GG V := by
  obtain ⟨a0, a2, a7, a9, a14, -, aK⟩ := h
  exact ⟨a0.of (e 0 (by omega) (by omega)), a2.of (e 2 (by omega) (by omega)), a7.of (e 7 (by omega) (by omega)), a9.of (e 9 (by omega) (by omega)), a14.of (e 14 (by omega) (by omega)), ⟨hC.1, Nat.zero_le _, hC.2⟩, fun l hl => (aK l hl).of (e _ (by omega) (by omega))⟩
theorem WG.put {W : Nat → Int32} (h : WG W) {k : Nat} (x : Int32) (hk : fre k) : WG (upd W k x) := by
  obtain ⟨b1, b2, b3, b4, b5, b6, b7, b8, b9⟩ := hk
  refine ⟨h.1.of (fun j hj hc => upd_ne _ _ (by omega)) (WC_of (upd_ne _ _ (by omega)) h.C), fun t ht => (h.2 t ht).same (fun c hc h1 => upd_ne _ _ (fun e => b9 t ht c hc e.symm h1))⟩
theorem WG.logs {W : Nat → Int32} (h : WG W) (t w v : Int32) : WG (q_logs W t w v) :=
  ⟨h.1.of (fun j hj hc => logs_fr h.C (by omega) (by omega)) (logs_WC h.C), fun t ht => (h.2 t ht).same (fun c hc h1 => logs_fr h.C (by omega) (by omega))⟩
theorem fre_at {t c : Nat} (ht : t < 4) (hc : c < 103) (h : c ≠ 0 ∧ c ≠ 2 ∧ c ≠ 10 ∧ ¬ cT c) : fre (376 + 103 * t + c) := by
  refine ⟨by omega, by omega, by omega, by omega, by omega, by omega, by omega, by omega, fun u hu e he heq => ?_⟩
  have h1 : u = t := by omega
  subst h1
  have h2 : e = c := by omega
  subst h2
  intro q
  rcases q with q | q | q | q
  · exact h.1 q
  · exact h.2.1 q
  · exact h.2.2.1 q
  · exact h.2.2.2 q
theorem fre_lo {k : Nat} (h : k < 376) (h2 : k ≠ 0 ∧ k ≠ 2 ∧ k ≠ 7 ∧ k ≠ 9 ∧ k ≠ 14 ∧ k ≠ 15 ∧ ¬ (16 ≤ k ∧ k < 20)) : fre k := by
  obtain ⟨a, b, c, d, e, f, g⟩ := h2
  exact ⟨by omega, a, b, c, d, e, f, g, fun t ht c hc h => absurd h (by omega)⟩
theorem WG.off {W V : Nat → Int32} (h : WG W) {t : Nat} (ht : t < 4) (e : ∀ k, k ≠ 376 + 103 * t + 2 → k ≠ 376 + 103 * t + 10 → V k = W k) (h2 : V (376 + 103 * t + 2) = Int32.ofNat 0) (h10 : V (376 + 103 * t + 10) = Int32.ofNat 0) : WG V := by
  refine ⟨h.1.of (fun j hj hc => e _ (by omega) (by omega)) (WC_of (e _ (by omega) (by omega)) h.C), fun u hu => ?_⟩
  by_cases hut : u = t
  · subst hut
    exact (h.2 u hu).of (fun c hc h1 => e _ (by unfold cT at h1; omega) (by unfold cT at h1; omega)) (ok.is h2 (by omega) (by omega) (by omega)) (ok.is h10 (by omega) (by omega) (by omega)) ((h.2 u hu).2.2.2.2.1.of (e _ (by omega) (by omega))) (fun _ => h10)
  · exact (h.2 u hu).same (fun c hc h1 => e _ (by omega) (by omega))
/-- the place of a thread -/
theorem WG.at0 {W : Nat → Int32} (h : WG W) {t n : Nat} (ht : t < 4) (hn : n ≤ nv W (376 + 103 * t + 22)) : WG (upd W (376 + 103 * t + 0) (Int32.ofNat n)) := by
  have h24 := (h.2 t ht).2.2.2.1.2.2
  refine ⟨h.1.of (fun j hj hc => upd_ne _ _ (by omega)) (WC_of (upd_ne _ _ (by omega)) h.C), fun u hu => ?_⟩
  by_cases hut : u = t
  · subst hut
    refine (h.2 u hu).of (fun c hc h1 => upd_ne _ _ (by unfold cT at h1; omega)) ((h.2 u hu).1.of (upd_ne _ _ (by omega))) ((h.2 u hu).2.1.of (upd_ne _ _ (by omega))) (ok.is (upd_at _ _ _) (by omega) (by omega) (by omega)) ?_
    rw [upd_ne _ _ (by omega), upd_ne _ _ (by omega)]
    exact (h.2 u hu).2.2.2.2.2.2.1
  · exact (h.2 u hu).same (fun c hc h1 => upd_ne _ _ (by omega))
theorem WG.ends {W : Nat → Int32} (h : WG W) {t : Nat} (ht : t < 4) : WG (q_ends W t) := by
  have h1 : WG (upd (upd (upd W (376 + 103 * t + 15) (Int32.ofNat 0)) (376 + 103 * t + 16) (Int32.ofNat 0)) (376 + 103 * t + 17) (Int32.ofNat 0)) :=
    ((h.put _ (fre_at ht (by omega) (by unfold cT; omega))).put _ (fre_at ht (by omega) (by unfold cT; omega))).put _ (fre_at ht (by omega) (by unfold cT; omega))
  refine h1.off ht (fun k a b => ?_) ?_ ?_
  · unfold q_ends
    by_cases c17 : k = 376 + 103 * t + 17
    · rw [c17, upd_at, upd_at]
    · by_cases c16 : k = 376 + 103 * t + 16
      · rw [upd_ne _ _ c17, upd_ne _ _ c17, c16, upd_at, upd_at]
      · by_cases c15 : k = 376 + 103 * t + 15
        · rw [upd_ne _ _ c17, upd_ne _ _ c17, upd_ne _ _ c16, upd_ne _ _ c16, c15, upd_at, upd_at]
        · rw [upd_ne _ _ c17, upd_ne _ _ c17, upd_ne _ _ c16, upd_ne _ _ c16, upd_ne _ _ c15, upd_ne _ _ c15, upd_ne _ _ b, upd_ne _ _ a]
  · unfold q_ends
    rw [upd_ne _ _ (by omega), upd_ne _ _ (by omega), upd_ne _ _ (by omega), upd_ne _ _ (by omega), upd_at]
  · unfold q_ends
    rw [upd_ne _ _ (by omega), upd_ne _ _ (by omega), upd_ne _ _ (by omega), upd_at]
theorem WG.falls {W : Nat → Int32} (h : WG W) {t y : Nat} (ht : t < 4) (hy : y < 5) : WG (q_falls W t y) := by
  have hb := (h.2 t ht).2.2.2.2.2.1
  have hl := (h.L t ht).2
  unfold q_falls
  apply WG.logs
  apply WG.ends _ ht
  apply WG.put _ _ (fre_lo (by omega) (by omega))
  apply WG.put _ _ (fre_at ht (by omega) (by unfold cT; omega))
  apply WG.put _ _ (fre_at ht (by omega) (by unfold cT; omega))
  apply WG.put _ _ (fre_at ht (by omega) (by unfold cT; omega))
  apply WG.put _ _ (fre_at ht (by omega) (by unfold cT; omega))
  have e : q_of W t 18 = Int32.ofNat (nv W (376 + 103 * t + 18)) := hb.1
  rw [e]
  exact h.at0 ht (Nat.le_trans hb.2.2 (Nat.sub_le _ _))
/-- a thread that is not done -/
def AL (W : Nat → Int32) (t : Nat) : Prop := nv W (376 + 103 * t + 0) < nv W (376 + 103 * t + 22)
theorem AL.of {W V : Nat → Int32} {t : Nat} (h : AL W t) (e0 : V (376 + 103 * t + 0) = W (376 + 103 * t + 0)) (e22 : V (376 + 103 * t + 22) = W (376 + 103 * t + 22)) : AL V t := by
  unfold AL
  rw [nv_of e0, nv_of e22]; exact h
theorem logs_at {W : Nat → Int32} (h : WG W) {t c : Nat} {a b v : Int32} : q_logs W a b v (376 + 103 * t + c) = W (376 + 103 * t + c) := logs_fr h.C (by omega) (by omega)
theorem falls_22 {W : Nat → Int32} (h : WG W) {o y t : Nat} (ho : o < 4) (hy : y < 5) (ht : t < 4) : q_falls W o y (376 + 103 * t + 22) = W (376 + 103 * t + 22) := by
  have := (h.L o ho).2
  refine falls_fr ho hy h.C this (by omega) (by omega) (by omega) (fun c e hc => ?_)
  unfold fT at hc
  omega
theorem falls_0 {W : Nat → Int32} (h : WG W) {o y t : Nat} (ho : o < 4) (hy : y < 5) (ht : t < 4) (hot : o ≠ t) : q_falls W o y (376 + 103 * t + 0) = W (376 + 103 * t + 0) := by
  have := (h.L o ho).2
  refine falls_fr ho hy h.C this (by omega) (by omega) (by omega) (fun c e hc => ?_)
  unfold fT at hc
  omega
theorem falls_00 {W : Nat → Int32} (h : WG W) {t y : Nat} (ht : t < 4) (hy : y < 5) : q_falls W t y (376 + 103 * t + 0) = W (376 + 103 * t + 18) := by
  have hl := (h.L t ht).2
  unfold q_falls
  rw [logs_fr (WC_of (by simp (disch := omega) only [q_ends, upd_ne]) h.C) (by omega) (by omega)]
  simp (disch := omega) only [q_ends, upd_ne]
  rw [upd_at]
  rfl
theorem AL.falls {W : Nat → Int32} {o y t : Nat} (h : WG W) (hA : AL W t) (ho : o < 4) (hy : y < 5) (ht : t < 4) : AL (q_falls W o y) t := by
  unfold AL at *
  rw [nv_of (falls_22 h ho hy ht)]
  by_cases hot : o = t
  · subst hot
    have h1 : nv (q_falls W o y) (376 + 103 * o + 0) = nv W (376 + 103 * o + 18) := by
      unfold nv
      rw [falls_00 h ho hy]
    have h2 := (h.2 o ho).2.2.2.2.2.1.2.2
    omega
  · rw [nv_of (falls_0 h ho hy ht hot)]
    exact hA
theorem clears_ok {t s : Int32} {n9 u : Nat} (hn : n9 ≤ 4) (hu : u < 4) : ∀ (n k : Nat) (W : Nat → Int32), k + n = n9 → WG W → AL W u → WG (l_clears t s n9 n k W).2 ∧ AL (l_clears t s n9 n k W).2 u ∧ (l_clears t s n9 n k W).1 = Int32.ofNat 1 := by
  intro n
  induction n with
  | zero => intro k W hk h hA; exact ⟨h, hA, rfl⟩
  | succ n ih =>
    intro k W hk h hA
    rw [l_clears]
    cases hc : zc1 .eq (q_holds s k) with
    | true => simp only [cond_true]; exact ih _ _ (by omega) h hA
    | false => simp only [cond_false]; exact ih _ _ (by omega) (h.falls (by omega) (by omega)) (AL.falls h hA (by omega) (by omega) hu)
theorem clearsW_ok {t s : Int32} {n9 : Nat} (hn : n9 ≤ 4) : ∀ (n k : Nat) (W : Nat → Int32), k + n = n9 → WG W → WG (l_clears t s n9 n k W).2 ∧ (l_clears t s n9 n k W).1 = Int32.ofNat 1 := by
  intro n
  induction n with
  | zero => intro k W hk h; exact ⟨h, rfl⟩
  | succ n ih =>
    intro k W hk h
    rw [l_clears]
    cases hc : zc1 .eq (q_holds s k) with
    | true => simp only [cond_true]; exact ih _ _ (by omega) h
    | false => simp only [cond_false]; exact ih _ _ (by omega) (h.falls (by omega) (by omega))
theorem WG.clears {W : Nat → Int32} {m : Nat → Nat → Int32} (h : WG W) {t : Nat} (ht : t < 4) (s : Int32) : WG (q_clears m W t s).2.1 := by
  unfold q_clears
  cases hc : zc1 .eq (q_yields W t s) with
  | true => simp only [cond_true]; exact (clearsW_ok h.N4 _ _ _ (by omega) h).1
  | false => simp only [cond_false, q_itFalls]; exact h.falls ht (by omega)
theorem AL.clears {W : Nat → Int32} {m : Nat → Nat → Int32} {t : Nat} (h : WG W) (hA : AL W t) (ht : t < 4) (s : Int32) : AL (q_clears m W t s).2.1 t := by
  unfold q_clears
  cases hc : zc1 .eq (q_yields W t s) with
  | true => simp only [cond_true]; exact (clears_ok h.N4 ht _ _ _ (by omega) h hA).2.1
  | false => simp only [cond_false, q_itFalls]; exact AL.falls h hA ht (by omega) ht
