/-! 56.wf 57.ref 58.pure 59.ref 60.pure -/
section
/-! a world that is in order -/
noncomputable def ok (W : Nat → Int32) (k lo hi : Nat) : Prop := W k = Int32.ofNat (nv W k) ∧ lo ≤ nv W k ∧ nv W k ≤ hi
theorem ok.of {W V : Nat → Int32} {k lo hi : Nat} (h : ok W k lo hi) (e : V k = W k) : ok V k lo hi := by
  unfold ok nv at *
  rw [e]; exact h
theorem ok.is {W : Nat → Int32} {k lo hi n : Nat} (e : W k = Int32.ofNat n) (h1 : lo ≤ n) (h2 : n ≤ hi) (h3 : n < 2147483648) : ok W k lo hi := by
  unfold ok nv
  rw [e, nv_on h3]
  exact ⟨rfl, h1, h2⟩
theorem ok.ne {W : Nat → Int32} {k lo hi : Nat} (h : ok W k lo hi) (hl : 1 ≤ lo) (hh : hi < 2147483648) : ¬ W k = 0 := by
  intro e
  have h1 := h.2.1
  unfold nv at h1
  rw [e] at h1
  have h2 : (0 : Int32).toNatClampNeg = 0 := by decide
  omega
noncomputable def DG (W : Nat → Int32) (t p : Nat) : Prop := ok W (376 + 103 * t + (55 + 2 * p)) 0 7 ∧ ok W (376 + 103 * t + (55 + 2 * p + 1)) 0 999 ∧ (nv W (376 + 103 * t + (55 + 2 * p)) ≤ 1 → nv W (376 + 103 * t + (55 + 2 * p + 1)) ≤ 3) ∧ (nv W (376 + 103 * t + (55 + 2 * p)) ≤ 3 → nv W (376 + 103 * t + (55 + 2 * p + 1)) ≤ 31)
noncomputable def TG (W : Nat → Int32) (t : Nat) : Prop := ok W (376 + 103 * t + 2) 0 1 ∧ ok W (376 + 103 * t + 10) 0 4 ∧ (∀ k, k < 4 → ok W (376 + 103 * t + (11 + k)) 0 3) ∧ ok W (376 + 103 * t + 22) 0 24 ∧ ok W (376 + 103 * t + 0) 0 (nv W (376 + 103 * t + 22)) ∧ ok W (376 + 103 * t + 18) 0 (nv W (376 + 103 * t + 22) - 1) ∧ (W (376 + 103 * t + 2) = Int32.ofNat 0 → W (376 + 103 * t + 10) = Int32.ofNat 0) ∧ ∀ p, p < 24 → DG W t p
noncomputable def GG (W : Nat → Int32) : Prop := ok W 0 1 8 ∧ ok W 2 1 4 ∧ ok W 7 1 9 ∧ ok W 9 0 4 ∧ ok W 14 0 20 ∧ ok W 15 0 60 ∧ ∀ l, l < 4 → ok W (16 + l) 0 31
noncomputable def WG (W : Nat → Int32) : Prop := GG W ∧ ∀ t, t < 4 → TG W t
noncomputable def cT (c : Nat) : Prop := (11 ≤ c ∧ c ≤ 14) ∨ c = 18 ∨ c = 22 ∨ 55 ≤ c
theorem DG.of {W V : Nat → Int32} {t p : Nat} (h : DG W t p) (e1 : V (376 + 103 * t + (55 + 2 * p)) = W (376 + 103 * t + (55 + 2 * p))) (e2 : V (376 + 103 * t + (55 + 2 * p + 1)) = W (376 + 103 * t + (55 + 2 * p + 1))) : DG V t p := by
  unfold DG at *
  rw [nv_of e1, nv_of e2]
  exact ⟨h.1.of e1, h.2.1.of e2, h.2.2⟩
theorem TG.of {W V : Nat → Int32} {t : Nat} (h : TG W t) (e : ∀ c, c < 103 → cT c → V (376 + 103 * t + c) = W (376 + 103 * t + c)) (h2 : ok V (376 + 103 * t + 2) 0 1) (h10 : ok V (376 + 103 * t + 10) 0 4) (h0 : ok V (376 + 103 * t + 0) 0 (nv W (376 + 103 * t + 22))) (hr : V (376 + 103 * t + 2) = Int32.ofNat 0 → V (376 + 103 * t + 10) = Int32.ofNat 0) : TG V t := by
  obtain ⟨-, -, a3, a4, -, a6, -, a8⟩ := h
  have e22 := e 22 (by omega) (by unfold cT; omega)
  refine ⟨h2, h10, fun k hk => (a3 k hk).of (e _ (by omega) (by unfold cT; omega)), a4.of e22, ?_, ?_, hr, fun p hp => (a8 p hp).of (e _ (by omega) (by unfold cT; omega)) (e _ (by omega) (by unfold cT; omega))⟩
  · rw [nv_of e22]; exact h0
  · rw [nv_of e22]; exact a6.of (e 18 (by omega) (by unfold cT; omega))
theorem TG.same {W V : Nat → Int32} {t : Nat} (h : TG W t) (e : ∀ c, c < 103 → c = 0 ∨ c = 2 ∨ c = 10 ∨ cT c → V (376 + 103 * t + c) = W (376 + 103 * t + c)) : TG V t := by
  refine h.of (fun c hc h1 => e c hc (Or.inr (Or.inr (Or.inr h1)))) (h.1.of (e 2 (by omega) (by omega))) (h.2.1.of (e 10 (by omega) (by omega))) (h.2.2.2.2.1.of (e 0 (by omega) (by omega))) ?_
  rw [e 2 (by omega) (by omega), e 10 (by omega) (by omega)]
  exact h.2.2.2.2.2.2.1
theorem WG.C {W : Nat → Int32} (h : WG W) : WC W := ⟨h.1.2.2.2.2.2.1.1, h.1.2.2.2.2.2.1.2.2⟩
theorem WG.N {W : Nat → Int32} (h : WG W) : W 9 = Int32.ofNat (nv W 9) := h.1.2.2.2.1.1
theorem WG.N4 {W : Nat → Int32} (h : WG W) : nv W 9 ≤ 4 := h.1.2.2.2.1.2.2
theorem WG.L {W : Nat → Int32} (h : WG W) : WL W := fun t ht => ⟨((h.2 t ht).2.2.1 0 (by omega)).1, Nat.lt_succ_of_le ((h.2 t ht).2.2.1 0 (by omega)).2.2⟩
theorem WG.Z {W : Nat → Int32} (h : WG W) : ¬ W 0 = 0 := h.1.1.ne (by omega) (by omega)
theorem WG.H {W : Nat → Int32} (h : WG W) : ¬ W 7 = 0 := h.1.2.2.1.ne (by omega) (by omega)
/-- cells that no order speaks of -/
noncomputable def fre (k : Nat) : Prop := k < 788 ∧ k ≠ 0 ∧ k ≠ 2 ∧ k ≠ 7 ∧ k ≠ 9 ∧ k ≠ 14 ∧ k ≠ 15 ∧ ¬ (16 ≤ k ∧ k < 20) ∧ ∀ t, t < 4 → ∀ c, c < 103 → k = 376 + 103 * t + c → ¬ (c = 0 ∨ c = 2 ∨ c = 10 ∨ cT c)
theorem GG.of {W V : Nat → Int32} (h : GG W) (e : ∀ k, k < 20 → k = 0 ∨ k = 2 ∨ k = 7 ∨ k = 9 ∨ k = 14 ∨ 16 ≤ k → V k = W k) (hC : WC V) : GG V := by
  obtain ⟨a0, a2, a7, a9, a14, -, aK⟩ := h
  exact ⟨a0.of (e 0 (by omega) (by omega)), a2.of (e 2 (by omega) (by omega)), a7.of (e 7 (by omega) (by omega)), a9.of (e 9 (by omega) (by omega)), a14.of (e 14 (by omega) (by omega)), ⟨hC.1, Nat.zero_le _, hC.2⟩, fun l hl => (aK l hl).of (e _ (by omega) (by omega))⟩
theorem WG.put {W : Nat → Int32} (h : WG W) {k : Nat} (x : Int32) (hk : fre k) : WG (upd W k x) := by
  obtain ⟨b1, b2, b3, b4, b5, b6, b7, b8, b9⟩ := hk
  refine ⟨h.1.of (fun j hj hc => upd_ne _ _ (by omega)) (WC_of (upd_ne _ _ (by omega)) h.C), fun t ht => (h.2 t ht).same (fun c hc h1 => upd_ne _ _ (fun e => b9 t ht c hc e.symm h1))⟩
theorem WG.logs {W : Nat → Int32} (h : WG W) (t w v : Int32) : WG (q_logs W t w v) :=
  ⟨h.1.of (fun j hj hc => logs_fr h.C (by omega) (by omega)) (logs_WC h.C), fun t ht => (h.2 t ht).same (fun c hc h1 => logs_fr h.C (by omega) (by omega))⟩
theorem fre_at {t c : Nat} (ht : t < 4) (hc : c < 103) (h : c ≠ 0 ∧ c ≠ 2 ∧ c ≠ 10 ∧ ¬ cT c) : fre (376 + 103 * t + c) := by
  refine ⟨by omega, by omega, by omega, by omega, by omega, by omega, by omega, by omega, fun u hu e he heq => ?_⟩
  have h1 : u = t := by omega
  subst h1
  have h2 : e = c := by omega
  subst h2
  intro q
  rcases q with q | q | q | q
  · exact h.1 q
  · exact h.2.1 q
  · exact h.2.2.1 q
  · exact h.2.2.2 q
theorem fre_lo {k : Nat} (h : k < 376) (h2 : k ≠ 0 ∧ k ≠ 2 ∧ k ≠ 7 ∧ k ≠ 9 ∧ k ≠ 14 ∧ k ≠ 15 ∧ ¬ (16 ≤ k ∧ k < 20)) : fre k := by
  obtain ⟨a, b, c, d, e, f, g⟩ := h2
  exact ⟨by omega, a, b, c, d, e, f, g, fun t ht c hc h => absurd h (by omega)⟩
theorem WG.off {W V : Nat → Int32} (h : WG W) {t : Nat} (ht : t < 4) (e : ∀ k, k ≠ 376 + 103 * t + 2 → k ≠ 376 + 103 * t + 10 → V k = W k) (h2 : V (376 + 103 * t + 2) = Int32.ofNat 0) (h10 : V (376 + 103 * t + 10) = Int32.ofNat 0) : WG V := by
  refine ⟨h.1.of (fun j hj hc => e _ (by omega) (by omega)) (WC_of (e _ (by omega) (by omega)) h.C), fun u hu => ?_⟩
  by_cases hut : u = t
  · subst hut
    exact (h.2 u hu).of (fun c hc h1 => e _ (by unfold cT at h1; omega) (by unfold cT at h1; omega)) (ok.is h2 (by omega) (by omega) (by omega)) (ok.is h10 (by omega) (by omega) (by omega)) ((h.2 u hu).2.2.2.2.1.of (e _ (by omega) (by omega))) (fun _ => h10)
  · exact (h.2 u hu).same (fun c hc h1 => e _ (by omega) (by omega))
/-- the place of a thread -/
theorem WG.at0 {W : Nat → Int32} (h : WG W) {t n : Nat} (ht : t < 4) (hn : n ≤ nv W (376 + 103 * t + 22)) : WG (upd W (376 + 103 * t + 0) (Int32.ofNat n)) := by
  have h24 := (h.2 t ht).2.2.2.1.2.2
  refine ⟨h.1.of (fun j hj hc => upd_ne _ _ (by omega)) (WC_of (upd_ne _ _ (by omega)) h.C), fun u hu => ?_⟩
  by_cases hut : u = t
  · subst hut
    refine (h.2 u hu).of (fun c hc h1 => upd_ne _ _ (by unfold cT at h1; omega)) ((h.2 u hu).1.of (upd_ne _ _ (by omega))) ((h.2 u hu).2.1.of (upd_ne _ _ (by omega))) (ok.is (upd_at _ _ _) (by omega) (by omega) (by omega)) ?_
    rw [upd_ne _ _ (by omega), upd_ne _ _ (by omega)]
    exact (h.2 u hu).2.2.2.2.2.2.1
  · exact (h.2 u hu).same (fun c hc h1 => upd_ne _ _ (by omega))
theorem WG.ends {W : Nat → Int32} (h : WG W) {t : Nat} (ht : t < 4) : WG (q_ends W t) := by
  have h1 : WG (upd (upd (upd W (376 + 103 * t + 15) (Int32.ofNat 0)) (376 + 103 * t + 16) (Int32.ofNat 0)) (376 + 103 * t + 17) (Int32.ofNat 0)) :=
    ((h.put _ (fre_at ht (by omega) (by unfold cT; omega))).put _ (fre_at ht (by omega) (by unfold cT; omega))).put _ (fre_at ht (by omega) (by unfold cT; omega))
  refine h1.off ht (fun k a b => ?_) ?_ ?_
  · unfold q_ends
    by_cases c17 : k = 376 + 103 * t + 17
    · rw [c17, upd_at, upd_at]
    · by_cases c16 : k = 376 + 103 * t + 16
      · rw [upd_ne _ _ c17, upd_ne _ _ c17, c16, upd_at, upd_at]
      · by_cases c15 : k = 376 + 103 * t + 15
        · rw [upd_ne _ _ c17, upd_ne _ _ c17, upd_ne _ _ c16, upd_ne _ _ c16, c15, upd_at, upd_at]
        · rw [upd_ne _ _ c17, upd_ne _ _ c17, upd_ne _ _ c16, upd_ne _ _ c16, upd_ne _ _ c15, upd_ne _ _ c15, upd_ne _ _ b, upd_ne _ _ a]
  · unfold q_ends
    rw [upd_ne _ _ (by omega), upd_ne _ _ (by omega), upd_ne _ _ (by omega), upd_ne _ _ (by omega), upd_at]
  · unfold q_ends
    rw [upd_ne _ _ (by omega), upd_ne _ _ (by omega), upd_ne _ _ (by omega), upd_at]
theorem WG.falls {W : Nat → Int32} (h : WG W) {t y : Nat} (ht : t < 4) (hy : y < 5) : WG (q_falls W t y) := by
  have hb := (h.2 t ht).2.2.2.2.2.1
  have hl := (h.L t ht).2
  unfold q_falls
  apply WG.logs
  apply WG.ends _ ht
  apply WG.put _ _ (fre_lo (by omega) (by omega))
  apply WG.put _ _ (fre_at ht (by omega) (by unfold cT; omega))
  apply WG.put _ _ (fre_at ht (by omega) (by unfold cT; omega))
  apply WG.put _ _ (fre_at ht (by omega) (by unfold cT; omega))
  apply WG.put _ _ (fre_at ht (by omega) (by unfold cT; omega))
  have e : q_of W t 18 = Int32.ofNat (nv W (376 + 103 * t + 18)) := hb.1
  rw [e]
  exact h.at0 ht (Nat.le_trans hb.2.2 (Nat.sub_le _ _))
/-- a thread that is not done -/
noncomputable def AL (W : Nat → Int32) (t : Nat) : Prop := nv W (376 + 103 * t + 0) < nv W (376 + 103 * t + 22)
theorem AL.of {W V : Nat → Int32} {t : Nat} (h : AL W t) (e0 : V (376 + 103 * t + 0) = W (376 + 103 * t + 0)) (e22 : V (376 + 103 * t + 22) = W (376 + 103 * t + 22)) : AL V t := by
  unfold AL
  rw [nv_of e0, nv_of e22]; exact h
theorem logs_at {W : Nat → Int32} (h : WG W) {t c : Nat} {a b v : Int32} : q_logs W a b v (376 + 103 * t + c) = W (376 + 103 * t + c) := logs_fr h.C (by omega) (by omega)
theorem falls_22 {W : Nat → Int32} (h : WG W) {o y t : Nat} (ho : o < 4) (hy : y < 5) (ht : t < 4) : q_falls W o y (376 + 103 * t + 22) = W (376 + 103 * t + 22) := by
  have := (h.L o ho).2
  refine falls_fr ho hy h.C this (by omega) (by omega) (by omega) (fun c e hc => ?_)
  unfold fT at hc
  omega
theorem falls_0 {W : Nat → Int32} (h : WG W) {o y t : Nat} (ho : o < 4) (hy : y < 5) (ht : t < 4) (hot : o ≠ t) : q_falls W o y (376 + 103 * t + 0) = W (376 + 103 * t + 0) := by
  have := (h.L o ho).2
  refine falls_fr ho hy h.C this (by omega) (by omega) (by omega) (fun c e hc => ?_)
  unfold fT at hc
  omega
theorem falls_00 {W : Nat → Int32} (h : WG W) {t y : Nat} (ht : t < 4) (hy : y < 5) : q_falls W t y (376 + 103 * t + 0) = W (376 + 103 * t + 18) := by
  have hl := (h.L t ht).2
  unfold q_falls
  rw [logs_fr (WC_of (by simp (disch := omega) only [q_ends, upd_ne]) h.C) (by omega) (by omega)]
  simp (disch := omega) only [q_ends, upd_ne]
  rw [upd_at]
  rfl
theorem AL.falls {W : Nat → Int32} {o y t : Nat} (h : WG W) (hA : AL W t) (ho : o < 4) (hy : y < 5) (ht : t < 4) : AL (q_falls W o y) t := by
  unfold AL at *
  rw [nv_of (falls_22 h ho hy ht)]
  by_cases hot : o = t
  · subst hot
    have h1 : nv (q_falls W o y) (376 + 103 * o + 0) = nv W (376 + 103 * o + 18) := by
      unfold nv
      rw [falls_00 h ho hy]
    have h2 := (h.2 o ho).2.2.2.2.2.1.2.2
    omega
  · rw [nv_of (falls_0 h ho hy ht hot)]
    exact hA
theorem clears_ok {t s : Int32} {n9 u : Nat} (hn : n9 ≤ 4) (hu : u < 4) : ∀ (n k : Nat) (W : Nat → Int32), k + n = n9 → WG W → AL W u → WG (l_clears t s n9 n k W).2 ∧ AL (l_clears t s n9 n k W).2 u ∧ (l_clears t s n9 n k W).1 = Int32.ofNat 1 := by
  intro n
  induction n with
  | zero => intro k W hk h hA; exact ⟨h, hA, rfl⟩
  | succ n ih =>
    intro k W hk h hA
    rw [l_clears]
    cases hc : zc1 .eq (q_holds s k) with
    | true => simp only [cond_true]; exact ih _ _ (by omega) h hA
    | false => simp only [cond_false]; exact ih _ _ (by omega) (h.falls (by omega) (by omega)) (AL.falls h hA (by omega) (by omega) hu)
theorem clearsW_ok {t s : Int32} {n9 : Nat} (hn : n9 ≤ 4) : ∀ (n k : Nat) (W : Nat → Int32), k + n = n9 → WG W → WG (l_clears t s n9 n k W).2 ∧ (l_clears t s n9 n k W).1 = Int32.ofNat 1 := by
  intro n
  induction n with
  | zero => intro k W hk h; exact ⟨h, rfl⟩
  | succ n ih =>
    intro k W hk h
    rw [l_clears]
    cases hc : zc1 .eq (q_holds s k) with
    | true => simp only [cond_true]; exact ih _ _ (by omega) h
    | false => simp only [cond_false]; exact ih _ _ (by omega) (h.falls (by omega) (by omega))
theorem WG.clears {W : Nat → Int32} {m : Nat → Nat → Int32} (h : WG W) {t : Nat} (ht : t < 4) (s : Int32) : WG (q_clears m W t s).2.1 := by
  unfold q_clears
  cases hc : zc1 .eq (q_yields W t s) with
  | true => simp only [cond_true]; exact (clearsW_ok h.N4 _ _ _ (by omega) h).1
  | false => simp only [cond_false, q_itFalls]; exact h.falls ht (by omega)
theorem AL.clears {W : Nat → Int32} {m : Nat → Nat → Int32} {t : Nat} (h : WG W) (hA : AL W t) (ht : t < 4) (s : Int32) : AL (q_clears m W t s).2.1 t := by
  unfold q_clears
  cases hc : zc1 .eq (q_yields W t s) with
  | true => simp only [cond_true]; exact (clears_ok h.N4 ht _ _ _ (by omega) h hA).2.1
  | false => simp only [cond_false, q_itFalls]; exact AL.falls h hA ht (by omega) ht
end
section
noncomputable def q_reads (m : Nat → Nat → Int32) (W : Nat → Int32) (t : Nat) (w : Int32) : Int32 × (Nat → Int32) × (Nat → Nat → Int32) := (bif zc1 .ne (q_clears m W t ((q_clash W ((Int32.ofNat t)) ((q_blockOf W w)) ((Int32.ofNat 0))))).1 then (bif zc2 .ne (q_of ((q_clears m W t ((q_clash W ((Int32.ofNat t)) ((q_blockOf W w)) ((Int32.ofNat 0))))).2.1) t 2) (Int32.ofNat 1) then ((Int32.ofNat 1), (q_clears m W t ((q_clash W ((Int32.ofNat t)) ((q_blockOf W w)) ((Int32.ofNat 0))))).2.1, (q_clears m W t ((q_clash W ((Int32.ofNat t)) ((q_blockOf W w)) ((Int32.ofNat 0))))).2.2) else ((Int32.ofNat 1), (upd ((q_clears m W t ((q_clash W ((Int32.ofNat t)) ((q_blockOf W w)) ((Int32.ofNat 0))))).2.1) (376 + 103 * t + 15) ((((q_clears m W t ((q_clash W ((Int32.ofNat t)) ((q_blockOf W w)) ((Int32.ofNat 0))))).2.1) (376 + 103 * t + 15)) ||| (q_blockOf ((q_clears m W t ((q_clash W ((Int32.ofNat t)) ((q_blockOf W w)) ((Int32.ofNat 0))))).2.1) w))), (q_clears m W t ((q_clash W ((Int32.ofNat t)) ((q_blockOf W w)) ((Int32.ofNat 0))))).2.2)) else ((Int32.ofNat 0), (q_clears m W t ((q_clash W ((Int32.ofNat t)) ((q_blockOf W w)) ((Int32.ofNat 0))))).2.1, (q_clears m W t ((q_clash W ((Int32.ofNat t)) ((q_blockOf W w)) ((Int32.ofNat 0))))).2.2))
theorem p_reads {σ : Nat → Nat × (Nat → Int32)} {yy : (Nat → Nat → Int64) × Bool × Nat × Nat} {m : Nat → Nat → Int32} {W : Nat → Int32} {t : Nat} {w : Int32} {d : Nat} (hd : 6 ≤ d + 1) (hw : WG W) (ht : t < 4) : zEv σ (d + 1) 1823 0 [some (.ref 137), some (.int (Int32.ofNat t)), some (.int w)] [] (zS1, zrow m 138 W, yy) (.inl (some (.int (q_reads m W t w).1))) (zS1, zrow ((q_reads m W t w).2.2) 138 ((q_reads m W t w).2.1), yy) := by
  refine zeP rfl rfl ?_
  refine zeP rfl rfl ?_
  refine zeP rfl rfl ?_
  refine zeP rfl rfl ?_
  refine zeP rfl rfl ?_
  refine zeP rfl rfl ?_
  refine zeCF rfl rfl rfl rfl rfl rfl (c_blockOf (m := m) (W := W) (w := w) hw.Z) (by omega) ?_
  dsimp only [Option.toList, List.cons_append, List.nil_append]
  refine zeKn (c := 0) rfl rfl rfl ?_
  refine zeCF rfl rfl rfl rfl rfl rfl (c_clash (m := m) (W := W) (t := (Int32.ofNat t)) (b := (q_blockOf W w)) (r := (Int32.ofNat 0)) hw.N hw.N4) (by omega) ?_
  dsimp only [Option.toList, List.cons_append, List.nil_append]
  refine zeCF rfl rfl rfl rfl rfl rfl (c_clears (m := m) (W := W) (t := t) (s := (q_clash W ((Int32.ofNat t)) ((q_blockOf W w)) ((Int32.ofNat 0)))) ht hw.N hw.N4 hw.C hw.L) (by omega) ?_
  dsimp only [Option.toList, List.cons_append, List.nil_append]
  refine zeB1 rfl rfl (fun h1 => ?_) (fun h1 => ?_)
  · refine zeP rfl rfl ?_
    refine zeP rfl rfl ?_
    refine zeKn (c := 2) rfl rfl rfl ?_
    refine zeCF rfl rfl rfl rfl rfl rfl (c_of (m := (q_clears m W t ((q_clash W ((Int32.ofNat t)) ((q_blockOf W w)) ((Int32.ofNat 0))))).2.2) (W := (q_clears m W t ((q_clash W ((Int32.ofNat t)) ((q_blockOf W w)) ((Int32.ofNat 0))))).2.1) (t := t) (k := 2) (by first | assumption | omega)) (by omega) ?_
    dsimp only [Option.toList, List.cons_append, List.nil_append]
    refine zeKn (c := 1) rfl rfl rfl ?_
    refine zeB2 rfl rfl (fun h2 => ?_) (fun h2 => ?_)
    · refine zeKn (c := 1) rfl rfl rfl ?_
      exact zeRe rfl rfl rfl rfl (by simp only [q_reads, h1, h2, cond_true, cond_false] <;> rfl) (by simp only [q_reads, h1, h2, cond_true, cond_false] <;> rfl)
    · refine zeP rfl rfl ?_
      refine zeGR rfl rfl zS137 rfl rfl ?_
      refine zeP rfl rfl ?_
      refine zeKn (c := 15) rfl rfl rfl ?_
      refine zeCF rfl rfl rfl rfl rfl rfl (c_at (m := (q_clears m W t ((q_clash W ((Int32.ofNat t)) ((q_blockOf W w)) ((Int32.ofNat 0))))).2.2) (W := (q_clears m W t ((q_clash W ((Int32.ofNat t)) ((q_blockOf W w)) ((Int32.ofNat 0))))).2.1) (t := t) (k := 15) ) (by omega) ?_
      dsimp only [Option.toList, List.cons_append, List.nil_append]
      refine zeP rfl rfl ?_
      refine zeWL (k := (376 + 103 * t + 15)) rfl (by omega) ?_
      refine zeP rfl rfl ?_
      refine zeP rfl rfl ?_
      refine zeCF rfl rfl rfl rfl rfl rfl (c_blockOf (m := (q_clears m W t ((q_clash W ((Int32.ofNat t)) ((q_blockOf W w)) ((Int32.ofNat 0))))).2.2) (W := (q_clears m W t ((q_clash W ((Int32.ofNat t)) ((q_blockOf W w)) ((Int32.ofNat 0))))).2.1) (w := w) (hw.clears ht _).Z) (by omega) ?_
      dsimp only [Option.toList, List.cons_append, List.nil_append]
      refine zeP rfl rfl ?_
      refine zeWS (k := (376 + 103 * t + 15)) rfl (by omega) ?_
      refine zeKn (c := 1) rfl rfl rfl ?_
      exact zeRe rfl rfl rfl rfl (by simp only [q_reads, h1, h2, cond_true, cond_false] <;> rfl) (by simp only [q_reads, h1, h2, cond_true, cond_false] <;> rfl)
  · refine zeKn (c := 0) rfl rfl rfl ?_
    exact zeRe rfl rfl rfl rfl (by simp only [q_reads, h1, cond_true, cond_false] <;> rfl) (by simp only [q_reads, h1, cond_true, cond_false] <;> rfl)
theorem c_reads {σ : Nat → Nat × (Nat → Int32)} {yy : (Nat → Nat → Int64) × Bool × Nat × Nat} {m : Nat → Nat → Int32} {W : Nat → Int32} {t : Nat} {w : Int32} (hw : WG W) (ht : t < 4) : zF σ 6 1823 [.ref 137, .int (Int32.ofNat t), .int w] (zS1, zrow m 138 W, yy) (.inl (some (.int (q_reads m W t w).1))) (zS1, zrow ((q_reads m W t w).2.2) 138 ((q_reads m W t w).2.1), yy) := by
  intro d hd
  obtain ⟨d, rfl⟩ : ∃ k, d = k + 1 := ⟨d - 1, by omega⟩
  exact p_reads hd hw ht
noncomputable def q_writesB (m : Nat → Nat → Int32) (W : Nat → Int32) (t : Nat) (w : Nat) (v : Int32) (b : Int32) (g : Int32) : Int32 × (Nat → Int32) × (Nat → Nat → Int32) := (bif zc1 .ne (q_clears m W t ((q_clash W ((Int32.ofNat t)) b ((Int32.ofNat 1))))).1 then (bif zc1 .eq g then ((Int32.ofNat 1), (upd ((q_clears m W t ((q_clash W ((Int32.ofNat t)) b ((Int32.ofNat 1))))).2.1) (32 + w) v), (q_clears m W t ((q_clash W ((Int32.ofNat t)) b ((Int32.ofNat 1))))).2.2) else ((Int32.ofNat 1), (upd ((upd ((upd ((q_clears m W t ((q_clash W ((Int32.ofNat t)) b ((Int32.ofNat 1))))).2.1) (376 + 103 * t + 16) ((((q_clears m W t ((q_clash W ((Int32.ofNat t)) b ((Int32.ofNat 1))))).2.1) (376 + 103 * t + 16)) ||| b))) (376 + 103 * t + 17) ((((upd ((q_clears m W t ((q_clash W ((Int32.ofNat t)) b ((Int32.ofNat 1))))).2.1) (376 + 103 * t + 16) ((((q_clears m W t ((q_clash W ((Int32.ofNat t)) b ((Int32.ofNat 1))))).2.1) (376 + 103 * t + 16)) ||| b))) (376 + 103 * t + 17)) ||| ((Int32.ofNat 1) <<< ((Int32.ofNat w) &&& 31))))) (376 + 103 * t + ((23 + w))) v), (q_clears m W t ((q_clash W ((Int32.ofNat t)) b ((Int32.ofNat 1))))).2.2)) else ((Int32.ofNat 0), (q_clears m W t ((q_clash W ((Int32.ofNat t)) b ((Int32.ofNat 1))))).2.1, (q_clears m W t ((q_clash W ((Int32.ofNat t)) b ((Int32.ofNat 1))))).2.2))
theorem p_writesB {σ : Nat → Nat × (Nat → Int32)} {yy : (Nat → Nat → Int64) × Bool × Nat × Nat} {m : Nat → Nat → Int32} {W : Nat → Int32} {t : Nat} {w : Nat} {v : Int32} {b : Int32} {g : Int32} {d : Nat} (hd : 6 ≤ d + 1) (hw : WG W) (ht : t < 4) (h32 : w < 32) : zEv σ (d + 1) 1824 74 [some (.ref 137), some (.int (Int32.ofNat t)), some (.int (Int32.ofNat w)), some (.int v), some (.int b), some (.int g)] [] (zS1, zrow m 138 W, yy) (.inl (some (.int (q_writesB m W t w v b g).1))) (zS1, zrow ((q_writesB m W t w v b g).2.2) 138 ((q_writesB m W t w v b g).2.1), yy) := by
  refine zeP rfl rfl ?_
  refine zeP rfl rfl ?_
  refine zeP rfl rfl ?_
  refine zeP rfl rfl ?_
  refine zeP rfl rfl ?_
  refine zeKn (c := 1) rfl rfl rfl ?_
  refine zeCF rfl rfl rfl rfl rfl rfl (c_clash (m := m) (W := W) (t := (Int32.ofNat t)) (b := b) (r := (Int32.ofNat 1)) hw.N hw.N4) (by omega) ?_
  dsimp only [Option.toList, List.cons_append, List.nil_append]
  refine zeCF rfl rfl rfl rfl rfl rfl (c_clears (m := m) (W := W) (t := t) (s := (q_clash W ((Int32.ofNat t)) b ((Int32.ofNat 1)))) ht hw.N hw.N4 hw.C hw.L) (by omega) ?_
  dsimp only [Option.toList, List.cons_append, List.nil_append]
  refine zeB1 rfl rfl (fun h1 => ?_) (fun h1 => ?_)
  · refine zeP rfl rfl ?_
    refine zeB1 rfl rfl (fun h2 => ?_) (fun h2 => ?_)
    · refine zeP rfl rfl ?_
      refine zeGR rfl rfl zS137 rfl rfl ?_
      refine zeKn (c := 32) rfl rfl rfl ?_
      refine zeP rfl rfl ?_
      refine zeAdd rfl ?_
      refine zeP rfl rfl ?_
      refine zeWS (k := (32 + w)) rfl (by omega) ?_
      refine zeKn (c := 1) rfl rfl rfl ?_
      exact zeRe rfl rfl rfl rfl (by simp only [q_writesB, h1, h2, cond_true, cond_false] <;> rfl) (by simp only [q_writesB, h1, h2, cond_true, cond_false] <;> rfl)
    · refine zeP rfl rfl ?_
      refine zeGR rfl rfl zS137 rfl rfl ?_
      refine zeP rfl rfl ?_
      refine zeKn (c := 16) rfl rfl rfl ?_
      refine zeCF rfl rfl rfl rfl rfl rfl (c_at (m := (q_clears m W t ((q_clash W ((Int32.ofNat t)) b ((Int32.ofNat 1))))).2.2) (W := (q_clears m W t ((q_clash W ((Int32.ofNat t)) b ((Int32.ofNat 1))))).2.1) (t := t) (k := 16) ) (by omega) ?_
      dsimp only [Option.toList, List.cons_append, List.nil_append]
      refine zeP rfl rfl ?_
      refine zeWL (k := (376 + 103 * t + 16)) rfl (by omega) ?_
      refine zeP rfl rfl ?_
      refine zeP rfl rfl ?_
      refine zeWS (k := (376 + 103 * t + 16)) rfl (by omega) ?_
      refine zeP rfl rfl ?_
      refine zeGR rfl rfl zS137 rfl rfl ?_
      refine zeP rfl rfl ?_
      refine zeKn (c := 17) rfl rfl rfl ?_
      refine zeCF rfl rfl rfl rfl rfl rfl (c_at (m := (q_clears m W t ((q_clash W ((Int32.ofNat t)) b ((Int32.ofNat 1))))).2.2) (W := (upd ((q_clears m W t ((q_clash W ((Int32.ofNat t)) b ((Int32.ofNat 1))))).2.1) (376 + 103 * t + 16) ((((q_clears m W t ((q_clash W ((Int32.ofNat t)) b ((Int32.ofNat 1))))).2.1) (376 + 103 * t + 16)) ||| b))) (t := t) (k := 17) ) (by omega) ?_
      dsimp only [Option.toList, List.cons_append, List.nil_append]
      refine zeP rfl rfl ?_
      refine zeWL (k := (376 + 103 * t + 17)) rfl (by omega) ?_
      refine zeKn (c := 1) rfl rfl rfl ?_
      refine zeP rfl rfl ?_
      refine zeP rfl rfl ?_
      refine zeP rfl rfl ?_
      refine zeWS (k := (376 + 103 * t + 17)) rfl (by omega) ?_
      refine zeP rfl rfl ?_
      refine zeGR rfl rfl zS137 rfl rfl ?_
      refine zeP rfl rfl ?_
      refine zeKn (c := 23) rfl rfl rfl ?_
      refine zeP rfl rfl ?_
      refine zeAdd rfl ?_
      refine zeCF rfl rfl rfl rfl rfl rfl (c_at (m := (q_clears m W t ((q_clash W ((Int32.ofNat t)) b ((Int32.ofNat 1))))).2.2) (W := (upd ((upd ((q_clears m W t ((q_clash W ((Int32.ofNat t)) b ((Int32.ofNat 1))))).2.1) (376 + 103 * t + 16) ((((q_clears m W t ((q_clash W ((Int32.ofNat t)) b ((Int32.ofNat 1))))).2.1) (376 + 103 * t + 16)) ||| b))) (376 + 103 * t + 17) ((((upd ((q_clears m W t ((q_clash W ((Int32.ofNat t)) b ((Int32.ofNat 1))))).2.1) (376 + 103 * t + 16) ((((q_clears m W t ((q_clash W ((Int32.ofNat t)) b ((Int32.ofNat 1))))).2.1) (376 + 103 * t + 16)) ||| b))) (376 + 103 * t + 17)) ||| ((Int32.ofNat 1) <<< ((Int32.ofNat w) &&& 31))))) (t := t) (k := (23 + w)) ) (by omega) ?_
      dsimp only [Option.toList, List.cons_append, List.nil_append]
      refine zeP rfl rfl ?_
      refine zeWS (k := (376 + 103 * t + ((23 + w)))) rfl (by omega) ?_
      refine zeP rfl rfl ?_
      refine zeKn (c := 1) rfl rfl rfl ?_
      exact zeRe rfl rfl rfl rfl (by simp only [q_writesB, h1, h2, cond_true, cond_false] <;> rfl) (by simp only [q_writesB, h1, h2, cond_true, cond_false] <;> rfl)
  · refine zeKn (c := 0) rfl rfl rfl ?_
    exact zeRe rfl rfl rfl rfl (by simp only [q_writesB, h1, cond_true, cond_false] <;> rfl) (by simp only [q_writesB, h1, cond_true, cond_false] <;> rfl)
noncomputable def q_writesX (W : Nat → Int32) (w : Nat) (v : Int32) : Int32 × (Nat → Int32) := (bif zc1 .ne (q_clearsX W ((q_clash W ((-1)) ((q_blockOf W ((Int32.ofNat w)))) ((Int32.ofNat 1))))).1 then ((Int32.ofNat 1), (upd ((q_clearsX W ((q_clash W ((-1)) ((q_blockOf W ((Int32.ofNat w)))) ((Int32.ofNat 1))))).2) (32 + w) v)) else ((Int32.ofNat 0), (q_clearsX W ((q_clash W ((-1)) ((q_blockOf W ((Int32.ofNat w)))) ((Int32.ofNat 1))))).2))
theorem p_writesX {σ : Nat → Nat × (Nat → Int32)} {yy : (Nat → Nat → Int64) × Bool × Nat × Nat} {m : Nat → Nat → Int32} {W : Nat → Int32} {w : Nat} {v : Int32} {d : Nat} (hd : 5 ≤ d + 1) (hw : WG W) (h32 : w < 32) : zEv σ (d + 1) 1824 0 [some (.ref 137), some (.int (-1)), some (.int (Int32.ofNat w)), some (.int v), none, none] [] (zS1, zrow m 138 W, yy) (.inl (some (.int (q_writesX W w v).1))) (zS1, zrow m 138 ((q_writesX W w v).2), yy) := by
  refine zeP rfl rfl ?_
  refine zeP rfl rfl ?_
  refine zeCF rfl rfl rfl rfl rfl rfl (c_blockOf (m := m) (W := W) (w := (Int32.ofNat w)) hw.Z) (by omega) ?_
  dsimp only [Option.toList, List.cons_append, List.nil_append]
  refine zeP rfl rfl ?_
  refine zeP rfl rfl ?_
  refine zeK (v := -1) rfl rfl rfl ?_
  refine zeT2 rfl rfl (show zc2 .eq (-1) (-1) = true by decide) ?_
  refine zeKn (c := 0) rfl rfl rfl ?_
  refine zeP rfl rfl ?_
  refine zeP rfl rfl ?_
  refine zeT1 rfl rfl (show zc1 .eq (Int32.ofNat 0) = true by decide) ?_
  refine zeP rfl rfl ?_
  refine zeP rfl rfl ?_
  refine zeP rfl rfl ?_
  refine zeP rfl rfl ?_
  refine zeP rfl rfl ?_
  refine zeKn (c := 1) rfl rfl rfl ?_
  refine zeCF rfl rfl rfl rfl rfl rfl (c_clash (m := m) (W := W) (t := (-1)) (b := (q_blockOf W ((Int32.ofNat w)))) (r := (Int32.ofNat 1)) hw.N hw.N4) (by omega) ?_
  dsimp only [Option.toList, List.cons_append, List.nil_append]
  refine zeCF rfl rfl rfl rfl rfl rfl (c_clearsX (m := m) (W := W) (s := (q_clash W ((-1)) ((q_blockOf W ((Int32.ofNat w)))) ((Int32.ofNat 1)))) hw.N hw.N4 hw.C hw.L) (by omega) ?_
  dsimp only [Option.toList, List.cons_append, List.nil_append]
  refine zeB1 rfl rfl (fun h1 => ?_) (fun h1 => ?_)
  · refine zeP rfl rfl ?_
    refine zeT1 rfl rfl (show zc1 .eq (Int32.ofNat 0) = true by decide) ?_
    refine zeP rfl rfl ?_
    refine zeGR rfl rfl zS137 rfl rfl ?_
    refine zeKn (c := 32) rfl rfl rfl ?_
    refine zeP rfl rfl ?_
    refine zeAdd rfl ?_
    refine zeP rfl rfl ?_
    refine zeWS (k := (32 + w)) rfl (by omega) ?_
    refine zeKn (c := 1) rfl rfl rfl ?_
    exact zeRe rfl rfl rfl rfl (by simp only [q_writesX, h1, cond_true, cond_false] <;> rfl) (by simp only [q_writesX, h1, cond_true, cond_false] <;> rfl)
  · refine zeKn (c := 0) rfl rfl rfl ?_
    exact zeRe rfl rfl rfl rfl (by simp only [q_writesX, h1, cond_true, cond_false] <;> rfl) (by simp only [q_writesX, h1, cond_true, cond_false] <;> rfl)
theorem c_writesX {σ : Nat → Nat × (Nat → Int32)} {yy : (Nat → Nat → Int64) × Bool × Nat × Nat} {m : Nat → Nat → Int32} {W : Nat → Int32} {w : Nat} {v : Int32} (hw : WG W) (h32 : w < 32) : zF σ 5 1824 [.ref 137, .int (-1), .int (Int32.ofNat w), .int v] (zS1, zrow m 138 W, yy) (.inl (some (.int (q_writesX W w v).1))) (zS1, zrow m 138 ((q_writesX W w v).2), yy) := by
  intro d hd
  obtain ⟨d, rfl⟩ : ∃ k, d = k + 1 := ⟨d - 1, by omega⟩
  exact p_writesX hd hw h32
noncomputable def q_writes (m : Nat → Nat → Int32) (W : Nat → Int32) (t : Nat) (w : Nat) (v : Int32) : Int32 × (Nat → Int32) × (Nat → Nat → Int32) := (bif zc2 .ne (q_of W t 2) (Int32.ofNat 1) then (q_writesB m W t w v ((q_blockOf W ((Int32.ofNat w)))) ((Int32.ofNat 0))) else (bif zc1 .ne ((q_of W t 16) &&& (q_blockOf W ((Int32.ofNat w)))) then (q_writesB m W t w v ((q_blockOf W ((Int32.ofNat w)))) ((Int32.ofNat 1))) else (bif zc2 .lt (q_bits ((q_of W t 16))) (W 3) then (q_writesB m W t w v ((q_blockOf W ((Int32.ofNat w)))) ((Int32.ofNat 1))) else ((Int32.ofNat 0), (q_itFalls m W t 1).1, (q_itFalls m W t 1).2))))
theorem p_writes {σ : Nat → Nat × (Nat → Int32)} {yy : (Nat → Nat → Int64) × Bool × Nat × Nat} {m : Nat → Nat → Int32} {W : Nat → Int32} {t : Nat} {w : Nat} {v : Int32} {d : Nat} (hd : 6 ≤ d + 1) (hw : WG W) (ht : t < 4) (h32 : w < 32) : zEv σ (d + 1) 1824 0 [some (.ref 137), some (.int (Int32.ofNat t)), some (.int (Int32.ofNat w)), some (.int v), none, none] [] (zS1, zrow m 138 W, yy) (.inl (some (.int (q_writes m W t w v).1))) (zS1, zrow ((q_writes m W t w v).2.2) 138 ((q_writes m W t w v).2.1), yy) := by
  refine zeP rfl rfl ?_
  refine zeP rfl rfl ?_
  refine zeCF rfl rfl rfl rfl rfl rfl (c_blockOf (m := m) (W := W) (w := (Int32.ofNat w)) hw.Z) (by omega) ?_
  dsimp only [Option.toList, List.cons_append, List.nil_append]
  refine zeP rfl rfl ?_
  refine zeP rfl rfl ?_
  refine zeK (v := -1) rfl rfl rfl ?_
  refine zeF2 rfl rfl (zne1 (by omega)) ?_
  refine zeP rfl rfl ?_
  refine zeP rfl rfl ?_
  refine zeKn (c := 2) rfl rfl rfl ?_
  refine zeCF rfl rfl rfl rfl rfl rfl (c_of (m := m) (W := W) (t := t) (k := 2) (by first | assumption | omega)) (by omega) ?_
  dsimp only [Option.toList, List.cons_append, List.nil_append]
  refine zeKn (c := 1) rfl rfl rfl ?_
  refine zeB2 rfl rfl (fun h1 => ?_) (fun h1 => ?_)
  · refine zeKn (c := 0) rfl rfl rfl ?_
    refine zeP rfl rfl ?_
    refine zeP rfl rfl ?_
    refine zeT1 rfl rfl (show zc1 .eq (Int32.ofNat 0) = true by decide) ?_
    simp only [q_writes, h1, cond_true, cond_false]
    exact p_writesB (t := t) (w := w) (v := v) (b := (q_blockOf W ((Int32.ofNat w)))) (g := (Int32.ofNat 0)) (W := W) (m := m) (by omega) hw ht h32
  · refine zeKn (c := 1) rfl rfl rfl ?_
    refine zeP rfl rfl ?_
    refine zeP rfl rfl ?_
    refine zeP rfl rfl ?_
    refine zeF1 rfl rfl (show zc1 .eq (Int32.ofNat 1) = false by decide) ?_
    refine zeP rfl rfl ?_
    refine zeP rfl rfl ?_
    refine zeKn (c := 16) rfl rfl rfl ?_
    refine zeCF rfl rfl rfl rfl rfl rfl (c_of (m := m) (W := W) (t := t) (k := 16) (by first | assumption | omega)) (by omega) ?_
    dsimp only [Option.toList, List.cons_append, List.nil_append]
    refine zeP rfl rfl ?_
    refine zeP rfl rfl ?_
    refine zeB1 rfl rfl (fun h2 => ?_) (fun h2 => ?_)
    · simp only [q_writes, h1, h2, cond_true, cond_false]
      exact p_writesB (t := t) (w := w) (v := v) (b := (q_blockOf W ((Int32.ofNat w)))) (g := (Int32.ofNat 1)) (W := W) (m := m) (by omega) hw ht h32
    · refine zeP rfl rfl ?_
      refine zeP rfl rfl ?_
      refine zeKn (c := 16) rfl rfl rfl ?_
      refine zeCF rfl rfl rfl rfl rfl rfl (c_of (m := m) (W := W) (t := t) (k := 16) (by first | assumption | omega)) (by omega) ?_
      dsimp only [Option.toList, List.cons_append, List.nil_append]
      refine zeCF rfl rfl rfl rfl rfl rfl (c_bits (m := m) (W := W) (s := (q_of W t 16)) ) (by omega) ?_
      dsimp only [Option.toList, List.cons_append, List.nil_append]
      refine zeP rfl rfl ?_
      refine zeGR rfl rfl zS137 rfl rfl ?_
      refine zeKn (c := 3) rfl rfl rfl ?_
      refine zeWL (k := 3) rfl (by omega) ?_
      refine zeB2 rfl rfl (fun h3 => ?_) (fun h3 => ?_)
      · simp only [q_writes, h1, h2, h3, cond_true, cond_false]
        exact p_writesB (t := t) (w := w) (v := v) (b := (q_blockOf W ((Int32.ofNat w)))) (g := (Int32.ofNat 1)) (W := W) (m := m) (by omega) hw ht h32
      · refine zeP rfl rfl ?_
        refine zeP rfl rfl ?_
        refine zeKn (c := 1) rfl rfl rfl ?_
        refine zeCF rfl rfl rfl rfl rfl rfl (c_itFalls (m := m) (W := W) (t := t) (y := 1) ht (by omega) (hw.L t ht).1 (hw.L t ht).2 hw.C.1 hw.C.2) (by omega) ?_
        dsimp only [Option.toList, List.cons_append, List.nil_append]
        refine zeKn (c := 0) rfl rfl rfl ?_
        exact zeRe rfl rfl rfl rfl (by simp only [q_writes, h1, h2, h3, cond_true, cond_false] <;> rfl) (by simp only [q_writes, h1, h2, h3, cond_true, cond_false] <;> rfl)
theorem c_writes {σ : Nat → Nat × (Nat → Int32)} {yy : (Nat → Nat → Int64) × Bool × Nat × Nat} {m : Nat → Nat → Int32} {W : Nat → Int32} {t : Nat} {w : Nat} {v : Int32} (hw : WG W) (ht : t < 4) (h32 : w < 32) : zF σ 6 1824 [.ref 137, .int (Int32.ofNat t), .int (Int32.ofNat w), .int v] (zS1, zrow m 138 W, yy) (.inl (some (.int (q_writes m W t w v).1))) (zS1, zrow ((q_writes m W t w v).2.2) 138 ((q_writes m W t w v).2.1), yy) := by
  intro d hd
  obtain ⟨d, rfl⟩ : ∃ k, d = k + 1 := ⟨d - 1, by omega⟩
  exact p_writes hd hw ht h32
noncomputable def q_beginsGuess (W : Nat → Int32) (t : Nat) (l : Nat) : (Nat → Int32) := (q_logs ((q_leavesOut ((upd ((upd ((upd ((upd ((upd W (376 + 103 * t + 2) (Int32.ofNat 1))) (376 + 103 * t + 18) (q_of ((upd W (376 + 103 * t + 2) (Int32.ofNat 1))) t 0))) (376 + 103 * t + 19) (q_of ((upd ((upd W (376 + 103 * t + 2) (Int32.ofNat 1))) (376 + 103 * t + 18) (q_of ((upd W (376 + 103 * t + 2) (Int32.ofNat 1))) t 0))) t 1))) (376 + 103 * t + 20) (((upd ((upd ((upd W (376 + 103 * t + 2) (Int32.ofNat 1))) (376 + 103 * t + 18) (q_of ((upd W (376 + 103 * t + 2) (Int32.ofNat 1))) t 0))) (376 + 103 * t + 19) (q_of ((upd ((upd W (376 + 103 * t + 2) (Int32.ofNat 1))) (376 + 103 * t + 18) (q_of ((upd W (376 + 103 * t + 2) (Int32.ofNat 1))) t 0))) t 1))) 11))) (376 + 103 * t + 15) (q_blockOf ((upd ((upd ((upd ((upd W (376 + 103 * t + 2) (Int32.ofNat 1))) (376 + 103 * t + 18) (q_of ((upd W (376 + 103 * t + 2) (Int32.ofNat 1))) t 0))) (376 + 103 * t + 19) (q_of ((upd ((upd W (376 + 103 * t + 2) (Int32.ofNat 1))) (376 + 103 * t + 18) (q_of ((upd W (376 + 103 * t + 2) (Int32.ofNat 1))) t 0))) t 1))) (376 + 103 * t + 20) (((upd ((upd ((upd W (376 + 103 * t + 2) (Int32.ofNat 1))) (376 + 103 * t + 18) (q_of ((upd W (376 + 103 * t + 2) (Int32.ofNat 1))) t 0))) (376 + 103 * t + 19) (q_of ((upd ((upd W (376 + 103 * t + 2) (Int32.ofNat 1))) (376 + 103 * t + 18) (q_of ((upd W (376 + 103 * t + 2) (Int32.ofNat 1))) t 0))) t 1))) 11))) ((((upd ((upd ((upd ((upd W (376 + 103 * t + 2) (Int32.ofNat 1))) (376 + 103 * t + 18) (q_of ((upd W (376 + 103 * t + 2) (Int32.ofNat 1))) t 0))) (376 + 103 * t + 19) (q_of ((upd ((upd W (376 + 103 * t + 2) (Int32.ofNat 1))) (376 + 103 * t + 18) (q_of ((upd W (376 + 103 * t + 2) (Int32.ofNat 1))) t 0))) t 1))) (376 + 103 * t + 20) (((upd ((upd ((upd W (376 + 103 * t + 2) (Int32.ofNat 1))) (376 + 103 * t + 18) (q_of ((upd W (376 + 103 * t + 2) (Int32.ofNat 1))) t 0))) (376 + 103 * t + 19) (q_of ((upd ((upd W (376 + 103 * t + 2) (Int32.ofNat 1))) (376 + 103 * t + 18) (q_of ((upd W (376 + 103 * t + 2) (Int32.ofNat 1))) t 0))) t 1))) 11))) (16 + l)))))) t l)) ((Int32.ofNat t)) ((Int32.ofNat 0)) ((Int32.ofNat l)))
theorem p_beginsGuess {σ : Nat → Nat × (Nat → Int32)} {yy : (Nat → Nat → Int64) × Bool × Nat × Nat} {m : Nat → Nat → Int32} {W : Nat → Int32} {t : Nat} {l : Nat} {d : Nat} (hd : 4 ≤ d + 1) (hw : WG W) (ht : t < 4) (hl : l < 4) (hQ4 : nv W (376 + 103 * t + 10) < 4) : zEv σ (d + 1) 1827 0 [some (.ref 137), some (.int (Int32.ofNat t)), some (.int (Int32.ofNat l))] [] (zS1, zrow m 138 W, yy) (.inl none) (zS1, zrow m 138 ((q_beginsGuess W t l)), yy) := by
  refine zeP rfl rfl ?_
  refine zeGR rfl rfl zS137 rfl rfl ?_
  refine zeP rfl rfl ?_
  refine zeKn (c := 2) rfl rfl rfl ?_
  refine zeCF rfl rfl rfl rfl rfl rfl (c_at (m := m) (W := W) (t := t) (k := 2) ) (by omega) ?_
  dsimp only [Option.toList, List.cons_append, List.nil_append]
  refine zeKn (c := 1) rfl rfl rfl ?_
  refine zeWS (k := (376 + 103 * t + 2)) rfl (by omega) ?_
  refine zeP rfl rfl ?_
  refine zeGR rfl rfl zS137 rfl rfl ?_
  refine zeP rfl rfl ?_
  refine zeKn (c := 18) rfl rfl rfl ?_
  refine zeCF rfl rfl rfl rfl rfl rfl (c_at (m := m) (W := (upd W (376 + 103 * t + 2) (Int32.ofNat 1))) (t := t) (k := 18) ) (by omega) ?_
  dsimp only [Option.toList, List.cons_append, List.nil_append]
  refine zeP rfl rfl ?_
  refine zeP rfl rfl ?_
  refine zeKn (c := 0) rfl rfl rfl ?_
  refine zeCF rfl rfl rfl rfl rfl rfl (c_of (m := m) (W := (upd W (376 + 103 * t + 2) (Int32.ofNat 1))) (t := t) (k := 0) (by first | assumption | omega)) (by omega) ?_
  dsimp only [Option.toList, List.cons_append, List.nil_append]
  refine zeWS (k := (376 + 103 * t + 18)) rfl (by omega) ?_
  refine zeP rfl rfl ?_
  refine zeGR rfl rfl zS137 rfl rfl ?_
  refine zeP rfl rfl ?_
  refine zeKn (c := 19) rfl rfl rfl ?_
  refine zeCF rfl rfl rfl rfl rfl rfl (c_at (m := m) (W := (upd ((upd W (376 + 103 * t + 2) (Int32.ofNat 1))) (376 + 103 * t + 18) (q_of ((upd W (376 + 103 * t + 2) (Int32.ofNat 1))) t 0))) (t := t) (k := 19) ) (by omega) ?_
  dsimp only [Option.toList, List.cons_append, List.nil_append]
  refine zeP rfl rfl ?_
  refine zeP rfl rfl ?_
  refine zeKn (c := 1) rfl rfl rfl ?_
  refine zeCF rfl rfl rfl rfl rfl rfl (c_of (m := m) (W := (upd ((upd W (376 + 103 * t + 2) (Int32.ofNat 1))) (376 + 103 * t + 18) (q_of ((upd W (376 + 103 * t + 2) (Int32.ofNat 1))) t 0))) (t := t) (k := 1) (by first | assumption | omega)) (by omega) ?_
  dsimp only [Option.toList, List.cons_append, List.nil_append]
  refine zeWS (k := (376 + 103 * t + 19)) rfl (by omega) ?_
  refine zeP rfl rfl ?_
  refine zeGR rfl rfl zS137 rfl rfl ?_
  refine zeP rfl rfl ?_
  refine zeKn (c := 20) rfl rfl rfl ?_
  refine zeCF rfl rfl rfl rfl rfl rfl (c_at (m := m) (W := (upd ((upd ((upd W (376 + 103 * t + 2) (Int32.ofNat 1))) (376 + 103 * t + 18) (q_of ((upd W (376 + 103 * t + 2) (Int32.ofNat 1))) t 0))) (376 + 103 * t + 19) (q_of ((upd ((upd W (376 + 103 * t + 2) (Int32.ofNat 1))) (376 + 103 * t + 18) (q_of ((upd W (376 + 103 * t + 2) (Int32.ofNat 1))) t 0))) t 1))) (t := t) (k := 20) ) (by omega) ?_
  dsimp only [Option.toList, List.cons_append, List.nil_append]
  refine zeP rfl rfl ?_
  refine zeGR rfl rfl zS137 rfl rfl ?_
  refine zeKn (c := 11) rfl rfl rfl ?_
  refine zeWL (k := 11) rfl (by omega) ?_
  refine zeWS (k := (376 + 103 * t + 20)) rfl (by omega) ?_
  refine zeP rfl rfl ?_
  refine zeGR rfl rfl zS137 rfl rfl ?_
  refine zeP rfl rfl ?_
  refine zeKn (c := 15) rfl rfl rfl ?_
  refine zeCF rfl rfl rfl rfl rfl rfl (c_at (m := m) (W := (upd ((upd ((upd ((upd W (376 + 103 * t + 2) (Int32.ofNat 1))) (376 + 103 * t + 18) (q_of ((upd W (376 + 103 * t + 2) (Int32.ofNat 1))) t 0))) (376 + 103 * t + 19) (q_of ((upd ((upd W (376 + 103 * t + 2) (Int32.ofNat 1))) (376 + 103 * t + 18) (q_of ((upd W (376 + 103 * t + 2) (Int32.ofNat 1))) t 0))) t 1))) (376 + 103 * t + 20) (((upd ((upd ((upd W (376 + 103 * t + 2) (Int32.ofNat 1))) (376 + 103 * t + 18) (q_of ((upd W (376 + 103 * t + 2) (Int32.ofNat 1))) t 0))) (376 + 103 * t + 19) (q_of ((upd ((upd W (376 + 103 * t + 2) (Int32.ofNat 1))) (376 + 103 * t + 18) (q_of ((upd W (376 + 103 * t + 2) (Int32.ofNat 1))) t 0))) t 1))) 11))) (t := t) (k := 15) ) (by omega) ?_
  dsimp only [Option.toList, List.cons_append, List.nil_append]
  refine zeP rfl rfl ?_
  refine zeP rfl rfl ?_
  refine zeGR rfl rfl zS137 rfl rfl ?_
  refine zeKn (c := 16) rfl rfl rfl ?_
  refine zeP rfl rfl ?_
  refine zeAdd rfl ?_
  refine zeWL (k := (16 + l)) rfl (by omega) ?_
  refine zeCF rfl rfl rfl rfl rfl rfl (c_blockOf (m := m) (W := (upd ((upd ((upd ((upd W (376 + 103 * t + 2) (Int32.ofNat 1))) (376 + 103 * t + 18) (q_of ((upd W (376 + 103 * t + 2) (Int32.ofNat 1))) t 0))) (376 + 103 * t + 19) (q_of ((upd ((upd W (376 + 103 * t + 2) (Int32.ofNat 1))) (376 + 103 * t + 18) (q_of ((upd W (376 + 103 * t + 2) (Int32.ofNat 1))) t 0))) t 1))) (376 + 103 * t + 20) (((upd ((upd ((upd W (376 + 103 * t + 2) (Int32.ofNat 1))) (376 + 103 * t + 18) (q_of ((upd W (376 + 103 * t + 2) (Int32.ofNat 1))) t 0))) (376 + 103 * t + 19) (q_of ((upd ((upd W (376 + 103 * t + 2) (Int32.ofNat 1))) (376 + 103 * t + 18) (q_of ((upd W (376 + 103 * t + 2) (Int32.ofNat 1))) t 0))) t 1))) 11))) (w := (((upd ((upd ((upd ((upd W (376 + 103 * t + 2) (Int32.ofNat 1))) (376 + 103 * t + 18) (q_of ((upd W (376 + 103 * t + 2) (Int32.ofNat 1))) t 0))) (376 + 103 * t + 19) (q_of ((upd ((upd W (376 + 103 * t + 2) (Int32.ofNat 1))) (376 + 103 * t + 18) (q_of ((upd W (376 + 103 * t + 2) (Int32.ofNat 1))) t 0))) t 1))) (376 + 103 * t + 20) (((upd ((upd ((upd W (376 + 103 * t + 2) (Int32.ofNat 1))) (376 + 103 * t + 18) (q_of ((upd W (376 + 103 * t + 2) (Int32.ofNat 1))) t 0))) (376 + 103 * t + 19) (q_of ((upd ((upd W (376 + 103 * t + 2) (Int32.ofNat 1))) (376 + 103 * t + 18) (q_of ((upd W (376 + 103 * t + 2) (Int32.ofNat 1))) t 0))) t 1))) 11))) (16 + l))) (by simp (disch := omega) only [upd_ne]; exact hw.Z)) (by omega) ?_
  dsimp only [Option.toList, List.cons_append, List.nil_append]
  refine zeWS (k := (376 + 103 * t + 15)) rfl (by omega) ?_
  refine zeP rfl rfl ?_
  refine zeP rfl rfl ?_
  refine zeP rfl rfl ?_
  refine zeCF rfl rfl rfl rfl rfl rfl (c_leavesOut (m := m) (W := (upd ((upd ((upd ((upd ((upd W (376 + 103 * t + 2) (Int32.ofNat 1))) (376 + 103 * t + 18) (q_of ((upd W (376 + 103 * t + 2) (Int32.ofNat 1))) t 0))) (376 + 103 * t + 19) (q_of ((upd ((upd W (376 + 103 * t + 2) (Int32.ofNat 1))) (376 + 103 * t + 18) (q_of ((upd W (376 + 103 * t + 2) (Int32.ofNat 1))) t 0))) t 1))) (376 + 103 * t + 20) (((upd ((upd ((upd W (376 + 103 * t + 2) (Int32.ofNat 1))) (376 + 103 * t + 18) (q_of ((upd W (376 + 103 * t + 2) (Int32.ofNat 1))) t 0))) (376 + 103 * t + 19) (q_of ((upd ((upd W (376 + 103 * t + 2) (Int32.ofNat 1))) (376 + 103 * t + 18) (q_of ((upd W (376 + 103 * t + 2) (Int32.ofNat 1))) t 0))) t 1))) 11))) (376 + 103 * t + 15) (q_blockOf ((upd ((upd ((upd ((upd W (376 + 103 * t + 2) (Int32.ofNat 1))) (376 + 103 * t + 18) (q_of ((upd W (376 + 103 * t + 2) (Int32.ofNat 1))) t 0))) (376 + 103 * t + 19) (q_of ((upd ((upd W (376 + 103 * t + 2) (Int32.ofNat 1))) (376 + 103 * t + 18) (q_of ((upd W (376 + 103 * t + 2) (Int32.ofNat 1))) t 0))) t 1))) (376 + 103 * t + 20) (((upd ((upd ((upd W (376 + 103 * t + 2) (Int32.ofNat 1))) (376 + 103 * t + 18) (q_of ((upd W (376 + 103 * t + 2) (Int32.ofNat 1))) t 0))) (376 + 103 * t + 19) (q_of ((upd ((upd W (376 + 103 * t + 2) (Int32.ofNat 1))) (376 + 103 * t + 18) (q_of ((upd W (376 + 103 * t + 2) (Int32.ofNat 1))) t 0))) t 1))) 11))) ((((upd ((upd ((upd ((upd W (376 + 103 * t + 2) (Int32.ofNat 1))) (376 + 103 * t + 18) (q_of ((upd W (376 + 103 * t + 2) (Int32.ofNat 1))) t 0))) (376 + 103 * t + 19) (q_of ((upd ((upd W (376 + 103 * t + 2) (Int32.ofNat 1))) (376 + 103 * t + 18) (q_of ((upd W (376 + 103 * t + 2) (Int32.ofNat 1))) t 0))) t 1))) (376 + 103 * t + 20) (((upd ((upd ((upd W (376 + 103 * t + 2) (Int32.ofNat 1))) (376 + 103 * t + 18) (q_of ((upd W (376 + 103 * t + 2) (Int32.ofNat 1))) t 0))) (376 + 103 * t + 19) (q_of ((upd ((upd W (376 + 103 * t + 2) (Int32.ofNat 1))) (376 + 103 * t + 18) (q_of ((upd W (376 + 103 * t + 2) (Int32.ofNat 1))) t 0))) t 1))) 11))) (16 + l)))))) (t := t) (l := l) ht (by simp (disch := omega) only [nv,  upd_ne]; exact (hw.2 t ht).2.1.1) (by simp (disch := omega) only [nv,  upd_ne]; exact hQ4)) (by omega) ?_
  dsimp only [Option.toList, List.cons_append, List.nil_append]
  refine zeP rfl rfl ?_
  refine zeP rfl rfl ?_
  refine zeKn (c := 0) rfl rfl rfl ?_
  refine zeP rfl rfl ?_
  refine zeCF rfl rfl rfl rfl rfl rfl (c_logs (m := m) (W := (q_leavesOut ((upd ((upd ((upd ((upd ((upd W (376 + 103 * t + 2) (Int32.ofNat 1))) (376 + 103 * t + 18) (q_of ((upd W (376 + 103 * t + 2) (Int32.ofNat 1))) t 0))) (376 + 103 * t + 19) (q_of ((upd ((upd W (376 + 103 * t + 2) (Int32.ofNat 1))) (376 + 103 * t + 18) (q_of ((upd W (376 + 103 * t + 2) (Int32.ofNat 1))) t 0))) t 1))) (376 + 103 * t + 20) (((upd ((upd ((upd W (376 + 103 * t + 2) (Int32.ofNat 1))) (376 + 103 * t + 18) (q_of ((upd W (376 + 103 * t + 2) (Int32.ofNat 1))) t 0))) (376 + 103 * t + 19) (q_of ((upd ((upd W (376 + 103 * t + 2) (Int32.ofNat 1))) (376 + 103 * t + 18) (q_of ((upd W (376 + 103 * t + 2) (Int32.ofNat 1))) t 0))) t 1))) 11))) (376 + 103 * t + 15) (q_blockOf ((upd ((upd ((upd ((upd W (376 + 103 * t + 2) (Int32.ofNat 1))) (376 + 103 * t + 18) (q_of ((upd W (376 + 103 * t + 2) (Int32.ofNat 1))) t 0))) (376 + 103 * t + 19) (q_of ((upd ((upd W (376 + 103 * t + 2) (Int32.ofNat 1))) (376 + 103 * t + 18) (q_of ((upd W (376 + 103 * t + 2) (Int32.ofNat 1))) t 0))) t 1))) (376 + 103 * t + 20) (((upd ((upd ((upd W (376 + 103 * t + 2) (Int32.ofNat 1))) (376 + 103 * t + 18) (q_of ((upd W (376 + 103 * t + 2) (Int32.ofNat 1))) t 0))) (376 + 103 * t + 19) (q_of ((upd ((upd W (376 + 103 * t + 2) (Int32.ofNat 1))) (376 + 103 * t + 18) (q_of ((upd W (376 + 103 * t + 2) (Int32.ofNat 1))) t 0))) t 1))) 11))) ((((upd ((upd ((upd ((upd W (376 + 103 * t + 2) (Int32.ofNat 1))) (376 + 103 * t + 18) (q_of ((upd W (376 + 103 * t + 2) (Int32.ofNat 1))) t 0))) (376 + 103 * t + 19) (q_of ((upd ((upd W (376 + 103 * t + 2) (Int32.ofNat 1))) (376 + 103 * t + 18) (q_of ((upd W (376 + 103 * t + 2) (Int32.ofNat 1))) t 0))) t 1))) (376 + 103 * t + 20) (((upd ((upd ((upd W (376 + 103 * t + 2) (Int32.ofNat 1))) (376 + 103 * t + 18) (q_of ((upd W (376 + 103 * t + 2) (Int32.ofNat 1))) t 0))) (376 + 103 * t + 19) (q_of ((upd ((upd W (376 + 103 * t + 2) (Int32.ofNat 1))) (376 + 103 * t + 18) (q_of ((upd W (376 + 103 * t + 2) (Int32.ofNat 1))) t 0))) t 1))) 11))) (16 + l)))))) t l)) (t := (Int32.ofNat t)) (w := (Int32.ofNat 0)) (v := (Int32.ofNat l)) (by simp (disch := omega) only [nv, q_leavesOut,  upd_ne]; exact hw.C.1) (by simp (disch := omega) only [nv, q_leavesOut,  upd_ne]; exact hw.C.2)) (by omega) ?_
  dsimp only [Option.toList, List.cons_append, List.nil_append]
  exact zeRe rfl rfl rfl rfl (by rfl) (by rfl)
theorem c_beginsGuess {σ : Nat → Nat × (Nat → Int32)} {yy : (Nat → Nat → Int64) × Bool × Nat × Nat} {m : Nat → Nat → Int32} {W : Nat → Int32} {t : Nat} {l : Nat} (hw : WG W) (ht : t < 4) (hl : l < 4) (hQ4 : nv W (376 + 103 * t + 10) < 4) : zF σ 4 1827 [.ref 137, .int (Int32.ofNat t), .int (Int32.ofNat l)] (zS1, zrow m 138 W, yy) (.inl none) (zS1, zrow m 138 ((q_beginsGuess W t l)), yy) := by
  intro d hd
  obtain ⟨d, rfl⟩ : ∃ k, d = k + 1 := ⟨d - 1, by omega⟩
  exact p_beginsGuess hd hw ht hl hQ4
noncomputable def q_isTaken (W : Nat → Int32) (t : Nat) (l : Nat) : (Nat → Int32) := (bif zc1 .ne ((((upd ((upd W (376 + 103 * t + 3) (Int32.ofNat 0))) (24 + l) ((((upd W (376 + 103 * t + 3) (Int32.ofNat 0))) (24 + l)) + (Int32.ofNat 1)))) (24 + l)) - (((upd ((upd W (376 + 103 * t + 3) (Int32.ofNat 0))) (24 + l) ((((upd W (376 + 103 * t + 3) (Int32.ofNat 0))) (24 + l)) + (Int32.ofNat 1)))) (24 + l)) / (((upd ((upd W (376 + 103 * t + 3) (Int32.ofNat 0))) (24 + l) ((((upd W (376 + 103 * t + 3) (Int32.ofNat 0))) (24 + l)) + (Int32.ofNat 1)))) 7) * (((upd ((upd W (376 + 103 * t + 3) (Int32.ofNat 0))) (24 + l) ((((upd W (376 + 103 * t + 3) (Int32.ofNat 0))) (24 + l)) + (Int32.ofNat 1)))) 7)) then (q_logs ((upd ((upd W (376 + 103 * t + 3) (Int32.ofNat 0))) (24 + l) ((((upd W (376 + 103 * t + 3) (Int32.ofNat 0))) (24 + l)) + (Int32.ofNat 1)))) ((Int32.ofNat t)) ((Int32.ofNat 3)) ((Int32.ofNat l))) else (q_logs ((upd ((upd ((upd W (376 + 103 * t + 3) (Int32.ofNat 0))) (24 + l) ((((upd W (376 + 103 * t + 3) (Int32.ofNat 0))) (24 + l)) + (Int32.ofNat 1)))) (20 + l) (if ((((upd ((upd W (376 + 103 * t + 3) (Int32.ofNat 0))) (24 + l) ((((upd W (376 + 103 * t + 3) (Int32.ofNat 0))) (24 + l)) + (Int32.ofNat 1)))) (20 + l)) + (Int32.ofNat 1)) < (Int32.ofNat 15) then ((((upd ((upd W (376 + 103 * t + 3) (Int32.ofNat 0))) (24 + l) ((((upd W (376 + 103 * t + 3) (Int32.ofNat 0))) (24 + l)) + (Int32.ofNat 1)))) (20 + l)) + (Int32.ofNat 1)) else (Int32.ofNat 15)))) ((Int32.ofNat t)) ((Int32.ofNat 3)) ((Int32.ofNat l))))
theorem p_isTaken {σ : Nat → Nat × (Nat → Int32)} {yy : (Nat → Nat → Int64) × Bool × Nat × Nat} {m : Nat → Nat → Int32} {W : Nat → Int32} {t : Nat} {l : Nat} {d : Nat} (hd : 2 ≤ d + 1) (hw : WG W) (ht : t < 4) (hl : l < 4) : zEv σ (d + 1) 1828 0 [some (.ref 137), some (.int (Int32.ofNat t)), some (.int (Int32.ofNat l))] [] (zS1, zrow m 138 W, yy) (.inl none) (zS1, zrow m 138 ((q_isTaken W t l)), yy) := by
  refine zeP rfl rfl ?_
  refine zeGR rfl rfl zS137 rfl rfl ?_
  refine zeP rfl rfl ?_
  refine zeKn (c := 3) rfl rfl rfl ?_
  refine zeCF rfl rfl rfl rfl rfl rfl (c_at (m := m) (W := W) (t := t) (k := 3) ) (by omega) ?_
  dsimp only [Option.toList, List.cons_append, List.nil_append]
  refine zeKn (c := 0) rfl rfl rfl ?_
  refine zeWS (k := (376 + 103 * t + 3)) rfl (by omega) ?_
  refine zeP rfl rfl ?_
  refine zeGR rfl rfl zS137 rfl rfl ?_
  refine zeKn (c := 24) rfl rfl rfl ?_
  refine zeP rfl rfl ?_
  refine zeAdd rfl ?_
  refine zeP rfl rfl ?_
  refine zeWL (k := (24 + l)) rfl (by omega) ?_
  refine zeKn (c := 1) rfl rfl rfl ?_
  refine zeP rfl rfl ?_
  refine zeWS (k := (24 + l)) rfl (by omega) ?_
  refine zeP rfl rfl ?_
  refine zeGR rfl rfl zS137 rfl rfl ?_
  refine zeKn (c := 24) rfl rfl rfl ?_
  refine zeP rfl rfl ?_
  refine zeAdd rfl ?_
  refine zeWL (k := (24 + l)) rfl (by omega) ?_
  refine zeP rfl rfl ?_
  refine zeGR rfl rfl zS137 rfl rfl ?_
  refine zeKn (c := 7) rfl rfl rfl ?_
  refine zeWL (k := 7) rfl (by omega) ?_
  refine zeRem rfl (by simp (disch := omega) only [upd_ne]; exact hw.H) ?_
  refine zeB1 rfl rfl (fun h1 => ?_) (fun h1 => ?_)
  · refine zeP rfl rfl ?_
    refine zeP rfl rfl ?_
    refine zeKn (c := 3) rfl rfl rfl ?_
    refine zeP rfl rfl ?_
    refine zeCF rfl rfl rfl rfl rfl rfl (c_logs (m := m) (W := (upd ((upd W (376 + 103 * t + 3) (Int32.ofNat 0))) (24 + l) ((((upd W (376 + 103 * t + 3) (Int32.ofNat 0))) (24 + l)) + (Int32.ofNat 1)))) (t := (Int32.ofNat t)) (w := (Int32.ofNat 3)) (v := (Int32.ofNat l)) (by simp (disch := omega) only [nv,  upd_ne]; exact hw.C.1) (by simp (disch := omega) only [nv,  upd_ne]; exact hw.C.2)) (by omega) ?_
    dsimp only [Option.toList, List.cons_append, List.nil_append]
    exact zeRe rfl rfl rfl rfl (by simp only [q_isTaken, h1, cond_true, cond_false] <;> rfl) (by simp only [q_isTaken, h1, cond_true, cond_false] <;> rfl)
  · refine zeP rfl rfl ?_
    refine zeGR rfl rfl zS137 rfl rfl ?_
    refine zeKn (c := 20) rfl rfl rfl ?_
    refine zeP rfl rfl ?_
    refine zeAdd rfl ?_
    refine zeKn (c := 15) rfl rfl rfl ?_
    refine zeP rfl rfl ?_
    refine zeGR rfl rfl zS137 rfl rfl ?_
    refine zeKn (c := 20) rfl rfl rfl ?_
    refine zeP rfl rfl ?_
    refine zeAdd rfl ?_
    refine zeWL (k := (20 + l)) rfl (by omega) ?_
    refine zeKn (c := 1) rfl rfl rfl ?_
    refine zeP rfl rfl ?_
    refine zeM rfl rfl rfl rfl rfl rfl rfl ?_
    refine zeWS (k := (20 + l)) rfl (by omega) ?_
    refine zeP rfl rfl ?_
    refine zeP rfl rfl ?_
    refine zeKn (c := 3) rfl rfl rfl ?_
    refine zeP rfl rfl ?_
    refine zeCF rfl rfl rfl rfl rfl rfl (c_logs (m := m) (W := (upd ((upd ((upd W (376 + 103 * t + 3) (Int32.ofNat 0))) (24 + l) ((((upd W (376 + 103 * t + 3) (Int32.ofNat 0))) (24 + l)) + (Int32.ofNat 1)))) (20 + l) (if ((((upd ((upd W (376 + 103 * t + 3) (Int32.ofNat 0))) (24 + l) ((((upd W (376 + 103 * t + 3) (Int32.ofNat 0))) (24 + l)) + (Int32.ofNat 1)))) (20 + l)) + (Int32.ofNat 1)) < (Int32.ofNat 15) then ((((upd ((upd W (376 + 103 * t + 3) (Int32.ofNat 0))) (24 + l) ((((upd W (376 + 103 * t + 3) (Int32.ofNat 0))) (24 + l)) + (Int32.ofNat 1)))) (20 + l)) + (Int32.ofNat 1)) else (Int32.ofNat 15)))) (t := (Int32.ofNat t)) (w := (Int32.ofNat 3)) (v := (Int32.ofNat l)) (by simp (disch := omega) only [nv,  upd_ne]; exact hw.C.1) (by simp (disch := omega) only [nv,  upd_ne]; exact hw.C.2)) (by omega) ?_
    dsimp only [Option.toList, List.cons_append, List.nil_append]
    exact zeRe rfl rfl rfl rfl (by simp only [q_isTaken, h1, cond_true, cond_false] <;> rfl) (by simp only [q_isTaken, h1, cond_true, cond_false] <;> rfl)
theorem c_isTaken {σ : Nat → Nat × (Nat → Int32)} {yy : (Nat → Nat → Int64) × Bool × Nat × Nat} {m : Nat → Nat → Int32} {W : Nat → Int32} {t : Nat} {l : Nat} (hw : WG W) (ht : t < 4) (hl : l < 4) : zF σ 2 1828 [.ref 137, .int (Int32.ofNat t), .int (Int32.ofNat l)] (zS1, zrow m 138 W, yy) (.inl none) (zS1, zrow m 138 ((q_isTaken W t l)), yy) := by
  intro d hd
  obtain ⟨d, rfl⟩ : ∃ k, d = k + 1 := ⟨d - 1, by omega⟩
  exact p_isTaken hd hw ht hl
end
section
/-! reads, writes and what begins keep the order -/
theorem cndi {α : Type} (P : α → Prop) {b : Bool} {x y : α} (hx : P x) (hy : P y) : P (bif b then x else y) := by
  cases b with
  | true => exact hx
  | false => exact hy
theorem cndh {α : Type} (P : α → Prop) {b : Bool} {x y : α} (hx : b = true → P x) (hy : b = false → P y) : P (bif b then x else y) := by
  cases b with
  | true => exact hx rfl
  | false => exact hy rfl
noncomputable def KG (W : Nat → Int32) (t : Nat) : Prop := WG W ∧ AL W t
theorem KG.put {W : Nat → Int32} {t k : Nat} (h : KG W t) (ht : t < 4) (x : Int32) (hk : fre k) : KG (upd W k x) t :=
  ⟨h.1.put x hk, h.2.of (upd_ne _ _ (fun e => hk.2.2.2.2.2.2.2.2 t ht 0 (by omega) e.symm (by omega))) (upd_ne _ _ (fun e => hk.2.2.2.2.2.2.2.2 t ht 22 (by omega) e.symm (by unfold cT; omega)))⟩
theorem KG.logs {W : Nat → Int32} {t : Nat} (h : KG W t) (a b v : Int32) : KG (q_logs W a b v) t := ⟨h.1.logs a b v, h.2.of (logs_at h.1) (logs_at h.1)⟩
theorem KG.falls {W : Nat → Int32} {t o y : Nat} (h : KG W t) (ht : t < 4) (ho : o < 4) (hy : y < 5) : KG (q_falls W o y) t := ⟨h.1.falls ho hy, AL.falls h.1 h.2 ho hy ht⟩
theorem KG.clears {W : Nat → Int32} {m : Nat → Nat → Int32} {t : Nat} (h : KG W t) (ht : t < 4) (s : Int32) : KG (q_clears m W t s).2.1 t := ⟨h.1.clears ht s, AL.clears h.1 h.2 ht s⟩
theorem KG.reads {W : Nat → Int32} {m : Nat → Nat → Int32} {t : Nat} (h : KG W t) (ht : t < 4) (w : Int32) : KG (q_reads m W t w).2.1 t := by
  have h1 := h.clears (m := m) ht (q_clash W (Int32.ofNat t) (q_blockOf W w) (Int32.ofNat 0))
  unfold q_reads
  generalize q_clears m W t (q_clash W (Int32.ofNat t) (q_blockOf W w) (Int32.ofNat 0)) = c at h1 ⊢
  refine cndi (fun q : Int32 × (Nat → Int32) × (Nat → Nat → Int32) => KG q.2.1 t) (cndi (fun q : Int32 × (Nat → Int32) × (Nat → Nat → Int32) => KG q.2.1 t) h1 ?_) h1
  exact h1.put ht _ (fre_at ht (by omega) (by unfold cT; omega))
theorem KG.writesB {W : Nat → Int32} {m : Nat → Nat → Int32} {t w : Nat} (h : KG W t) (ht : t < 4) (hw : w < 32) (v b g : Int32) : KG (q_writesB m W t w v b g).2.1 t := by
  have h1 := h.clears (m := m) ht (q_clash W (Int32.ofNat t) b (Int32.ofNat 1))
  unfold q_writesB
  generalize q_clears m W t (q_clash W (Int32.ofNat t) b (Int32.ofNat 1)) = c at h1 ⊢
  refine cndi (fun q : Int32 × (Nat → Int32) × (Nat → Nat → Int32) => KG q.2.1 t) (cndi (fun q : Int32 × (Nat → Int32) × (Nat → Nat → Int32) => KG q.2.1 t) ?_ ?_) h1
  · exact h1.put ht _ (fre_lo (by omega) (by omega))
  · exact ((h1.put ht _ (fre_at ht (by omega) (by unfold cT; omega))).put ht _ (fre_at ht (by omega) (by unfold cT; omega))).put ht _ (fre_at ht (by omega) (by unfold cT; omega))
theorem KG.itFalls {W : Nat → Int32} {m : Nat → Nat → Int32} {t y : Nat} (h : KG W t) (ht : t < 4) (hy : y < 5) : KG (q_itFalls m W t y).1 t := h.falls ht ht hy
theorem KG.writes {W : Nat → Int32} {m : Nat → Nat → Int32} {t w : Nat} (h : KG W t) (ht : t < 4) (hw : w < 32) (v : Int32) : KG (q_writes m W t w v).2.1 t := by
  unfold q_writes
  have a1 := h.writesB (m := m) ht hw v (q_blockOf W (Int32.ofNat w)) (Int32.ofNat 0)
  have a2 := h.writesB (m := m) ht hw v (q_blockOf W (Int32.ofNat w)) (Int32.ofNat 1)
  have a3 := h.itFalls (m := m) ht (show 1 < 5 by omega)
  generalize q_writesB m W t w v (q_blockOf W (Int32.ofNat w)) (Int32.ofNat 0) = c0 at a1 ⊢
  generalize q_writesB m W t w v (q_blockOf W (Int32.ofNat w)) (Int32.ofNat 1) = c1 at a2 ⊢
  generalize q_itFalls m W t 1 = c2 at a3 ⊢
  exact cndi (fun q : Int32 × (Nat → Int32) × (Nat → Nat → Int32) => KG q.2.1 t) a1 (cndi (fun q : Int32 × (Nat → Int32) × (Nat → Nat → Int32) => KG q.2.1 t) a2 (cndi (fun q : Int32 × (Nat → Int32) × (Nat → Nat → Int32) => KG q.2.1 t) a2 a3))
theorem WG.writesX {W : Nat → Int32} (h : WG W) {w : Nat} (hw : w < 32) (v : Int32) : WG (q_writesX W w v).2 := by
  have h1 : WG (q_clearsX W (q_clash W (-1) (q_blockOf W (Int32.ofNat w)) (Int32.ofNat 1))).2 := (clearsW_ok h.N4 _ _ _ (by omega) h).1
  unfold q_writesX
  generalize q_clearsX W (q_clash W (-1) (q_blockOf W (Int32.ofNat w)) (Int32.ofNat 1)) = c at h1 ⊢
  exact cndi (fun q : Int32 × (Nat → Int32) => WG q.2) (h1.put _ (fre_lo (by omega) (by omega))) h1
noncomputable def B01 (x : Int32) : Prop := x = 0 ∨ x = 1
theorem b01_0 : B01 (Int32.ofNat 0) := Or.inl rfl
theorem b01_1 : B01 (Int32.ofNat 1) := Or.inr rfl
theorem writesB_01 {W : Nat → Int32} {m : Nat → Nat → Int32} {t w : Nat} {v b g : Int32} : B01 (q_writesB m W t w v b g).1 := by
  unfold q_writesB
  generalize q_clears m W t (q_clash W (Int32.ofNat t) b (Int32.ofNat 1)) = c
  exact cndi (fun q : Int32 × (Nat → Int32) × (Nat → Nat → Int32) => B01 q.1) (cndi (fun q : Int32 × (Nat → Int32) × (Nat → Nat → Int32) => B01 q.1) b01_1 b01_1) b01_0
theorem writes_01 {W : Nat → Int32} {m : Nat → Nat → Int32} {t w : Nat} {v : Int32} : B01 (q_writes m W t w v).1 := by
  unfold q_writes
  exact cndi (fun q : Int32 × (Nat → Int32) × (Nat → Nat → Int32) => B01 q.1) writesB_01 (cndi (fun q : Int32 × (Nat → Int32) × (Nat → Nat → Int32) => B01 q.1) writesB_01 (cndi (fun q : Int32 × (Nat → Int32) × (Nat → Nat → Int32) => B01 q.1) writesB_01 b01_0))
theorem WG.lkw {W : Nat → Int32} (h : WG W) {l : Nat} (hl : l < 4) : ok W (16 + l) 0 31 := h.1.2.2.2.2.2.2 l hl
theorem KG.isTaken {W : Nat → Int32} {t l : Nat} (h : KG W t) (ht : t < 4) (hl : l < 4) : KG (q_isTaken W t l) t := by
  unfold q_isTaken
  refine cndi (fun q : Nat → Int32 => KG q t) ?_ ?_
  · exact KG.logs ((h.put ht _ (fre_at ht (by omega) (by unfold cT; omega))).put ht _ (fre_lo (by omega) (by omega))) _ _ _
  · exact KG.logs (((h.put ht _ (fre_at ht (by omega) (by unfold cT; omega))).put ht _ (fre_lo (by omega) (by omega))).put ht _ (fre_lo (by omega) (by omega))) _ _ _
/-- a guess begins: the four cells that go together -/
theorem KG.begins {W V : Nat → Int32} {t l : Nat} (h : KG W t) (ht : t < 4) (hl : l < 4) (hq : nv W (376 + 103 * t + 10) < 4) (e : ∀ k, k ≠ 376 + 103 * t + 2 → k ≠ 376 + 103 * t + 10 → k ≠ 376 + 103 * t + 18 → k ≠ 376 + 103 * t + (11 + nv W (376 + 103 * t + 10)) → V k = W k) (h2 : V (376 + 103 * t + 2) = Int32.ofNat 1) (h10 : V (376 + 103 * t + 10) = Int32.ofNat (nv W (376 + 103 * t + 10) + 1)) (h18 : V (376 + 103 * t + 18) = W (376 + 103 * t + 0) ∨ V (376 + 103 * t + 18) = W (376 + 103 * t + 18)) (h11 : V (376 + 103 * t + (11 + nv W (376 + 103 * t + 10))) = Int32.ofNat l) : KG V t := by
  obtain ⟨hw, hA⟩ := h
  refine ⟨⟨hw.1.of (fun j hj hc => e _ (by omega) (by omega) (by omega) (by omega)) (WC_of (e _ (by omega) (by omega) (by omega) (by omega)) hw.C), fun u hu => ?_⟩, hA.of (e _ (by omega) (by omega) (by omega) (by omega)) (e _ (by omega) (by omega) (by omega) (by omega))⟩
  by_cases hut : u = t
  · subst hut
    obtain ⟨a1, a2, a3, a4, a5, a6, a7, a8⟩ := hw.2 u hu
    have e22 : V (376 + 103 * u + 22) = W (376 + 103 * u + 22) := e _ (by omega) (by omega) (by omega) (by omega)
    refine ⟨ok.is h2 (by omega) (by omega) (by omega), ok.is h10 (by omega) (by omega) (by omega), fun k hk => ?_, a4.of e22, ?_, ?_, ?_, fun p hp => (a8 p hp).of (e _ (by omega) (by omega) (by omega) (by omega)) (e _ (by omega) (by omega) (by omega) (by omega))⟩
    · by_cases hk2 : k = nv W (376 + 103 * u + 10)
      · subst hk2
        exact ok.is h11 (by omega) (by omega) (by omega)
      · exact (a3 k hk).of (e _ (by omega) (by omega) (by omega) (by omega))
    · rw [nv_of e22]
      exact a5.of (e _ (by omega) (by omega) (by omega) (by omega))
    · rw [nv_of e22]
      rcases h18 with h18 | h18
      · have hA' : nv W (376 + 103 * u + 0) < nv W (376 + 103 * u + 22) := hA
        refine ok.is (n := nv W (376 + 103 * u + 0)) (by rw [h18]; exact a5.1) (by omega) (by omega) ?_
        have := a4.2.2
        omega
      · exact a6.of h18
    · intro h0
      rw [h2] at h0
      exact absurd h0 (by decide)
  · exact (hw.2 u hu).same (fun c hc h1 => e _ (by omega) (by omega) (by omega) (by omega))
theorem KG.bg {W : Nat → Int32} {t l : Nat} {x19 x20 x15 : Int32} (h : KG W t) (ht : t < 4) (hl : l < 4) (hq : nv W (376 + 103 * t + 10) < 4) : KG (q_leavesOut (upd (upd (upd (upd (upd W (376 + 103 * t + 2) (Int32.ofNat 1)) (376 + 103 * t + 18) (W (376 + 103 * t + 0))) (376 + 103 * t + 19) x19) (376 + 103 * t + 20) x20) (376 + 103 * t + 15) x15) t l) t := by
  have h1 : KG (upd (upd (upd W (376 + 103 * t + 19) x19) (376 + 103 * t + 20) x20) (376 + 103 * t + 15) x15) t :=
    ((h.put ht _ (fre_at ht (by omega) (by unfold cT; omega))).put ht _ (fre_at ht (by omega) (by unfold cT; omega))).put ht _ (fre_at ht (by omega) (by unfold cT; omega))
  have hQ := (h.1.2 t ht).2.1.1
  have n5 : nv (upd (upd (upd (upd (upd W (376 + 103 * t + 2) (Int32.ofNat 1)) (376 + 103 * t + 18) (W (376 + 103 * t + 0))) (376 + 103 * t + 19) x19) (376 + 103 * t + 20) x20) (376 + 103 * t + 15) x15) (376 + 103 * t + 10) = nv W (376 + 103 * t + 10) := by
    apply nv_of
    simp (disch := omega) only [upd_ne]
  have n3 : nv (upd (upd (upd W (376 + 103 * t + 19) x19) (376 + 103 * t + 20) x20) (376 + 103 * t + 15) x15) (376 + 103 * t + 10) = nv W (376 + 103 * t + 10) := by
    apply nv_of
    simp (disch := omega) only [upd_ne]
  refine h1.begins (l := l) ht hl (by rw [n3]; exact hq) ?_ ?_ ?_ ?_ ?_
  · rw [n3]
    intro k a b c d
    unfold q_leavesOut
    rw [n5, upd_ne _ _ b, upd_ne _ _ d]
    by_cases c15 : k = 376 + 103 * t + 15
    · rw [c15, upd_at, upd_at]
    · rw [upd_ne _ _ c15, upd_ne _ _ c15]
      by_cases c20 : k = 376 + 103 * t + 20
      · rw [c20, upd_at, upd_at]
      · rw [upd_ne _ _ c20, upd_ne _ _ c20]
        by_cases c19 : k = 376 + 103 * t + 19
        · rw [c19, upd_at, upd_at]
        · rw [upd_ne _ _ c19, upd_ne _ _ c19, upd_ne _ _ c, upd_ne _ _ a]
  · unfold q_leavesOut
    rw [n5]
    simp (disch := omega) only [upd_ne]
    rw [upd_at]
  · unfold q_leavesOut
    rw [n5, n3, upd_at]
    simp (disch := omega) only [upd_ne]
    rw [Int32.ofNat_add, ← hQ]
  · left
    unfold q_leavesOut
    rw [n5]
    simp (disch := omega) only [upd_ne]
    rw [upd_at]
  · rw [n3]
    unfold q_leavesOut
    rw [n5, upd_ne _ _ (by omega), upd_at]
theorem KG.beginsGuess {W : Nat → Int32} {t l : Nat} (h : KG W t) (ht : t < 4) (hl : l < 4) (hq : nv W (376 + 103 * t + 10) < 4) : KG (q_beginsGuess W t l) t := by
  unfold q_beginsGuess
  apply KG.logs
  have e0 : q_of (upd W (376 + 103 * t + 2) (Int32.ofNat 1)) t 0 = W (376 + 103 * t + 0) := upd_ne _ _ (by omega)
  rw [e0]
  exact KG.bg h ht hl hq
/-- one more is left out -/
theorem KG.leavesOut {W : Nat → Int32} {t l : Nat} (h : KG W t) (ht : t < 4) (hl : l < 4) (hq : nv W (376 + 103 * t + 10) < 4) (hg : W (376 + 103 * t + 2) = Int32.ofNat 1) : KG (q_leavesOut W t l) t := by
  have hQ := (h.1.2 t ht).2.1.1
  refine h.begins (l := l) ht hl hq ?_ ?_ ?_ ?_ ?_
  · intro k a b c d
    unfold q_leavesOut
    rw [upd_ne _ _ b, upd_ne _ _ d]
  · unfold q_leavesOut
    rw [upd_ne _ _ (by omega), upd_ne _ _ (by omega)]
    exact hg
  · unfold q_leavesOut
    rw [upd_at, upd_ne _ _ (by omega), Int32.ofNat_add, ← hQ]
  · right
    unfold q_leavesOut
    rw [upd_ne _ _ (by omega), upd_ne _ _ (by omega)]
  · unfold q_leavesOut
    rw [upd_ne _ _ (by omega), upd_at]
theorem zlt_t {a b : Nat} (ha : a < 2147483648) (hb : b < 2147483648) (h : zc2 .lt (Int32.ofNat a) (Int32.ofNat b) = true) : a < b := by
  have h1 : Int32.ofNat a < Int32.ofNat b := of_decide_eq_true h
  rw [Int32.lt_iff_toInt_lt, zoN ha, zoN hb] at h1
  omega
/-- not guessing: nothing is left out -/
theorem WG.idle {W : Nat → Int32} (h : WG W) {t : Nat} (ht : t < 4) (hc : zc2 .ne (q_of W t 2) (Int32.ofNat 1) = true) : nv W (376 + 103 * t + 10) < 4 := by
  obtain ⟨a1, a2, a3, a4, a5, a6, a7, a8⟩ := h.2 t ht
  have h1 : ¬ W (376 + 103 * t + 2) = Int32.ofNat 1 := of_decide_eq_true hc
  have h2 : nv W (376 + 103 * t + 2) = 0 := by
    have := a1.2.2
    by_cases h3 : nv W (376 + 103 * t + 2) = 1
    · exact absurd (by rw [a1.1, h3]) h1
    · omega
  have h4 := a7 (by rw [a1.1, h2])
  unfold nv
  rw [h4]
  decide
theorem zeq1 {x : Int32} {b : Nat} (hc : zc2 .ne x (Int32.ofNat b) = false) : x = Int32.ofNat b := Classical.byContradiction (fun q => of_decide_eq_false hc q)
end
section
theorem zlt4 {W : Nat → Int32} (h : WG W) {t : Nat} (ht : t < 4) (hc : zc2 .lt (Int32.ofNat (nv W (376 + 103 * t + 10))) (Int32.ofNat (nv W 2)) = true) : nv W (376 + 103 * t + 10) < 4 := by
  have h1 := (h.2 t ht).2.1.2.2
  have h2 := h.1.2.1.2.2
  have h3 := zlt_t (by omega) (by omega) hc
  omega
theorem WG.lk32 {W : Nat → Int32} (h : WG W) {l : Nat} (hl : l < 4) : nv W (16 + l) < 32 := Nat.lt_succ_of_le (h.lkw hl).2.2
noncomputable def q_takesD (m : Nat → Nat → Int32) (W : Nat → Int32) (t : Nat) (l : Nat) (w : Nat) (f : Int32) : Int32 × (Nat → Int32) × (Nat → Nat → Int32) := (bif zc2 .eq (q_placeLeft W t ((Int32.ofNat l))) (-1) then ((Int32.ofNat 0), (q_itFalls m W t 4).1, (q_itFalls m W t 4).2) else ((Int32.ofNat 0), (q_itFalls m W t 2).1, (q_itFalls m W t 2).2))
theorem p_takesD {σ : Nat → Nat × (Nat → Int32)} {yy : (Nat → Nat → Int64) × Bool × Nat × Nat} {m : Nat → Nat → Int32} {W : Nat → Int32} {t : Nat} {l : Nat} {w : Nat} {f : Int32} {d : Nat} (hd : 5 ≤ d + 1) (hk : KG W t) (ht : t < 4) : zEv σ (d + 1) 1829 62 [some (.ref 137), some (.int (Int32.ofNat t)), some (.int (Int32.ofNat l)), some (.int (Int32.ofNat w)), some (.int f)] [] (zS1, zrow m 138 W, yy) (.inl (some (.int (q_takesD m W t l w f).1))) (zS1, zrow ((q_takesD m W t l w f).2.2) 138 ((q_takesD m W t l w f).2.1), yy) := by
  refine zeP rfl rfl ?_
  refine zeP rfl rfl ?_
  refine zeP rfl rfl ?_
  refine zeP rfl rfl ?_
  refine zeP rfl rfl ?_
  refine zeCF rfl rfl rfl rfl rfl rfl (c_placeLeft (m := m) (W := W) (t := t) (l := (Int32.ofNat l)) ht (hk.1.2 t ht).2.1.1 (hk.1.2 t ht).2.1.2.2) (by omega) ?_
  dsimp only [Option.toList, List.cons_append, List.nil_append]
  refine zeK (v := -1) rfl rfl rfl ?_
  refine zeB2 rfl rfl (fun h1 => ?_) (fun h1 => ?_)
  · refine zeKn (c := 4) rfl rfl rfl ?_
    refine zeCF rfl rfl rfl rfl rfl rfl (c_itFalls (m := m) (W := W) (t := t) (y := 4) ht (by omega) (hk.1.L t ht).1 (hk.1.L t ht).2 hk.1.C.1 hk.1.C.2) (by omega) ?_
    dsimp only [Option.toList, List.cons_append, List.nil_append]
    refine zeKn (c := 0) rfl rfl rfl ?_
    exact zeRe rfl rfl rfl rfl (by simp only [q_takesD, h1, cond_true, cond_false] <;> rfl) (by simp only [q_takesD, h1, cond_true, cond_false] <;> rfl)
  · refine zeKn (c := 2) rfl rfl rfl ?_
    refine zeP rfl rfl ?_
    refine zeCF rfl rfl rfl rfl rfl rfl (c_itFalls (m := m) (W := W) (t := t) (y := 2) ht (by omega) (hk.1.L t ht).1 (hk.1.L t ht).2 hk.1.C.1 hk.1.C.2) (by omega) ?_
    dsimp only [Option.toList, List.cons_append, List.nil_append]
    refine zeKn (c := 0) rfl rfl rfl ?_
    exact zeRe rfl rfl rfl rfl (by simp only [q_takesD, h1, cond_true, cond_false] <;> rfl) (by simp only [q_takesD, h1, cond_true, cond_false] <;> rfl)
noncomputable def q_takesC (m : Nat → Nat → Int32) (W : Nat → Int32) (t : Nat) (l : Nat) (w : Nat) (f : Int32) : Int32 × (Nat → Int32) × (Nat → Nat → Int32) := (bif zc2 .ne (q_of W t 2) (Int32.ofNat 1) then (bif zc1 .ne f then (bif zc2 .ge (q_of W t 3) (W 1) then ((Int32.ofNat 1), (q_isTaken ((q_writes m W t w ((Int32.ofNat 1))).2.1) t l), (q_writes m W t w ((Int32.ofNat 1))).2.2) else (bif zc2 .lt (W (20 + l)) (W 4) then ((Int32.ofNat 1), (q_isTaken ((q_writes m W t w ((Int32.ofNat 1))).2.1) t l), (q_writes m W t w ((Int32.ofNat 1))).2.2) else ((Int32.ofNat 1), (q_beginsGuess W t l), m))) else ((Int32.ofNat 0), W, m)) else (bif zc2 .ne (q_placeLeft W t ((Int32.ofNat l))) (-1) then (q_takesD m W t l w f) else (bif zc1 .ne f then (bif zc2 .lt (Int32.ofNat (nv W (376 + 103 * t + 10))) (Int32.ofNat (nv W 2)) then ((Int32.ofNat 1), (q_leavesOut W t l), m) else ((q_writes m W t w ((Int32.ofNat 1))).1, (q_writes m W t w ((Int32.ofNat 1))).2.1, (q_writes m W t w ((Int32.ofNat 1))).2.2)) else (q_takesD m W t l w f))))
theorem p_takesC {σ : Nat → Nat × (Nat → Int32)} {yy : (Nat → Nat → Int64) × Bool × Nat × Nat} {m : Nat → Nat → Int32} {W : Nat → Int32} {t : Nat} {l : Nat} {w : Nat} {f : Int32} {d : Nat} (hd : 7 ≤ d + 1) (hk : KG W t) (ht : t < 4) (hl : l < 4) (h32 : w < 32) : zEv σ (d + 1) 1829 37 [some (.ref 137), some (.int (Int32.ofNat t)), some (.int (Int32.ofNat l)), some (.int (Int32.ofNat w)), some (.int f)] [] (zS1, zrow m 138 W, yy) (.inl (some (.int (q_takesC m W t l w f).1))) (zS1, zrow ((q_takesC m W t l w f).2.2) 138 ((q_takesC m W t l w f).2.1), yy) := by
  refine zeP rfl rfl ?_
  refine zeP rfl rfl ?_
  refine zeKn (c := 2) rfl rfl rfl ?_
  refine zeCF rfl rfl rfl rfl rfl rfl (c_of (m := m) (W := W) (t := t) (k := 2) (by first | assumption | omega)) (by omega) ?_
  dsimp only [Option.toList, List.cons_append, List.nil_append]
  refine zeKn (c := 1) rfl rfl rfl ?_
  refine zeB2 rfl rfl (fun h1 => ?_) (fun h1 => ?_)
  · refine zeP rfl rfl ?_
    refine zeB1 rfl rfl (fun h2 => ?_) (fun h2 => ?_)
    · refine zeP rfl rfl ?_
      refine zeP rfl rfl ?_
      refine zeKn (c := 3) rfl rfl rfl ?_
      refine zeCF rfl rfl rfl rfl rfl rfl (c_of (m := m) (W := W) (t := t) (k := 3) (by first | assumption | omega)) (by omega) ?_
      dsimp only [Option.toList, List.cons_append, List.nil_append]
      refine zeP rfl rfl ?_
      refine zeGR rfl rfl zS137 rfl rfl ?_
      refine zeKn (c := 1) rfl rfl rfl ?_
      refine zeWL (k := 1) rfl (by omega) ?_
      refine zeB2 rfl rfl (fun h3 => ?_) (fun h3 => ?_)
      · refine zeP rfl rfl ?_
        refine zeP rfl rfl ?_
        refine zeP rfl rfl ?_
        refine zeKn (c := 1) rfl rfl rfl ?_
        refine zeCF rfl rfl rfl rfl rfl rfl (c_writes (m := m) (W := W) (t := t) (w := w) (v := (Int32.ofNat 1)) hk.1 ht h32) (by omega) ?_
        dsimp only [Option.toList, List.cons_append, List.nil_append]
        refine zeP rfl rfl ?_
        refine zeP rfl rfl ?_
        refine zeP rfl rfl ?_
        refine zeP rfl rfl ?_
        refine zeCF rfl rfl rfl rfl rfl rfl (c_isTaken (m := (q_writes m W t w ((Int32.ofNat 1))).2.2) (W := (q_writes m W t w ((Int32.ofNat 1))).2.1) (t := t) (l := l) (hk.writes ht h32 _).1 ht hl) (by omega) ?_
        dsimp only [Option.toList, List.cons_append, List.nil_append]
        refine zeKn (c := 1) rfl rfl rfl ?_
        exact zeRe rfl rfl rfl rfl (by simp only [q_takesC, h1, h2, h3, cond_true, cond_false] <;> rfl) (by simp only [q_takesC, h1, h2, h3, cond_true, cond_false] <;> rfl)
      · refine zeP rfl rfl ?_
        refine zeGR rfl rfl zS137 rfl rfl ?_
        refine zeKn (c := 20) rfl rfl rfl ?_
        refine zeP rfl rfl ?_
        refine zeAdd rfl ?_
        refine zeWL (k := (20 + l)) rfl (by omega) ?_
        refine zeP rfl rfl ?_
        refine zeGR rfl rfl zS137 rfl rfl ?_
        refine zeKn (c := 4) rfl rfl rfl ?_
        refine zeWL (k := 4) rfl (by omega) ?_
        refine zeB2 rfl rfl (fun h4 => ?_) (fun h4 => ?_)
        · refine zeP rfl rfl ?_
          refine zeP rfl rfl ?_
          refine zeP rfl rfl ?_
          refine zeKn (c := 1) rfl rfl rfl ?_
          refine zeCF rfl rfl rfl rfl rfl rfl (c_writes (m := m) (W := W) (t := t) (w := w) (v := (Int32.ofNat 1)) hk.1 ht h32) (by omega) ?_
          dsimp only [Option.toList, List.cons_append, List.nil_append]
          refine zeP rfl rfl ?_
          refine zeP rfl rfl ?_
          refine zeP rfl rfl ?_
          refine zeP rfl rfl ?_
          refine zeCF rfl rfl rfl rfl rfl rfl (c_isTaken (m := (q_writes m W t w ((Int32.ofNat 1))).2.2) (W := (q_writes m W t w ((Int32.ofNat 1))).2.1) (t := t) (l := l) (hk.writes ht h32 _).1 ht hl) (by omega) ?_
          dsimp only [Option.toList, List.cons_append, List.nil_append]
          refine zeKn (c := 1) rfl rfl rfl ?_
          exact zeRe rfl rfl rfl rfl (by simp only [q_takesC, h1, h2, h3, h4, cond_true, cond_false] <;> rfl) (by simp only [q_takesC, h1, h2, h3, h4, cond_true, cond_false] <;> rfl)
        · refine zeP rfl rfl ?_
          refine zeP rfl rfl ?_
          refine zeP rfl rfl ?_
          refine zeCF rfl rfl rfl rfl rfl rfl (c_beginsGuess (m := m) (W := W) (t := t) (l := l) hk.1 ht hl (hk.1.idle ht (by assumption))) (by omega) ?_
          dsimp only [Option.toList, List.cons_append, List.nil_append]
          refine zeP rfl rfl ?_
          refine zeKn (c := 1) rfl rfl rfl ?_
          exact zeRe rfl rfl rfl rfl (by simp only [q_takesC, h1, h2, h3, h4, cond_true, cond_false] <;> rfl) (by simp only [q_takesC, h1, h2, h3, h4, cond_true, cond_false] <;> rfl)
    · refine zeKn (c := 0) rfl rfl rfl ?_
      exact zeRe rfl rfl rfl rfl (by simp only [q_takesC, h1, h2, cond_true, cond_false] <;> rfl) (by simp only [q_takesC, h1, h2, cond_true, cond_false] <;> rfl)
  · refine zeP rfl rfl ?_
    refine zeP rfl rfl ?_
    refine zeP rfl rfl ?_
    refine zeCF rfl rfl rfl rfl rfl rfl (c_placeLeft (m := m) (W := W) (t := t) (l := (Int32.ofNat l)) ht (hk.1.2 t ht).2.1.1 (hk.1.2 t ht).2.1.2.2) (by omega) ?_
    dsimp only [Option.toList, List.cons_append, List.nil_append]
    refine zeK (v := -1) rfl rfl rfl ?_
    refine zeB2 rfl rfl (fun h5 => ?_) (fun h5 => ?_)
    · simp only [q_takesC, h1, h5, cond_true, cond_false]
      exact p_takesD (t := t) (l := l) (w := w) (f := f) (W := W) (m := m) (by omega) hk ht
    · refine zeP rfl rfl ?_
      refine zeB1 rfl rfl (fun h6 => ?_) (fun h6 => ?_)
      · refine zeP rfl rfl ?_
        refine zeP rfl rfl ?_
        refine zeKn (c := 10) rfl rfl rfl ?_
        refine zeCF rfl rfl rfl rfl rfl rfl (c_of (m := m) (W := W) (t := t) (k := 10) (by first | assumption | omega)) (by omega) ?_
        dsimp only [Option.toList, List.cons_append, List.nil_append]
        rw [show q_of W t 10 = Int32.ofNat (nv W (376 + 103 * t + 10)) from (hk.1.2 t ht).2.1.1]
        refine zeP rfl rfl ?_
        refine zeGR rfl rfl zS137 rfl rfl ?_
        refine zeKn (c := 2) rfl rfl rfl ?_
        refine zeWL (k := 2) rfl (by omega) ?_
        rw [hk.1.1.2.1.1]
        refine zeB2 rfl rfl (fun h7 => ?_) (fun h7 => ?_)
        · refine zeP rfl rfl ?_
          refine zeP rfl rfl ?_
          refine zeP rfl rfl ?_
          refine zeCF rfl rfl rfl rfl rfl rfl (c_leavesOut (m := m) (W := W) (t := t) (l := l) ht (hk.1.2 t ht).2.1.1 (zlt4 hk.1 ht (by assumption))) (by omega) ?_
          dsimp only [Option.toList, List.cons_append, List.nil_append]
          refine zeKn (c := 1) rfl rfl rfl ?_
          exact zeRe rfl rfl rfl rfl (by simp only [q_takesC, h1, h5, h6, h7, cond_true, cond_false] <;> rfl) (by simp only [q_takesC, h1, h5, h6, h7, cond_true, cond_false] <;> rfl)
        · refine zeP rfl rfl ?_
          refine zeP rfl rfl ?_
          refine zeP rfl rfl ?_
          refine zeKn (c := 1) rfl rfl rfl ?_
          refine zeCF rfl rfl rfl rfl rfl rfl (c_writes (m := m) (W := W) (t := t) (w := w) (v := (Int32.ofNat 1)) hk.1 ht h32) (by omega) ?_
          dsimp only [Option.toList, List.cons_append, List.nil_append]
          exact zeRe rfl rfl rfl (zretB rfl rfl writes_01) (by simp only [q_takesC, h1, h5, h6, h7, cond_true, cond_false] <;> rfl) (by simp only [q_takesC, h1, h5, h6, h7, cond_true, cond_false] <;> rfl)
      · simp only [q_takesC, h1, h5, h6, cond_true, cond_false]
        exact p_takesD (t := t) (l := l) (w := w) (f := f) (W := W) (m := m) (by omega) hk ht
noncomputable def q_takesB (m : Nat → Nat → Int32) (W : Nat → Int32) (t : Nat) (l : Nat) (w : Nat) : Int32 × (Nat → Int32) × (Nat → Nat → Int32) := (bif zc1 .ne (q_seen W t w) then (q_takesC m W t l w ((Int32.ofNat 0))) else (q_takesC m W t l w ((Int32.ofNat 1))))
theorem p_takesB {σ : Nat → Nat × (Nat → Int32)} {yy : (Nat → Nat → Int64) × Bool × Nat × Nat} {m : Nat → Nat → Int32} {W : Nat → Int32} {t : Nat} {l : Nat} {w : Nat} {d : Nat} (hd : 7 ≤ d + 1) (hk : KG W t) (ht : t < 4) (hl : l < 4) (h32 : w < 32) : zEv σ (d + 1) 1829 21 [some (.ref 137), some (.int (Int32.ofNat t)), some (.int (Int32.ofNat l)), some (.int (Int32.ofNat w)), none] [] (zS1, zrow m 138 W, yy) (.inl (some (.int (q_takesB m W t l w).1))) (zS1, zrow ((q_takesB m W t l w).2.2) 138 ((q_takesB m W t l w).2.1), yy) := by
  refine zeP rfl rfl ?_
  refine zeP rfl rfl ?_
  refine zeP rfl rfl ?_
  refine zeCF rfl rfl rfl rfl rfl rfl (c_seen (m := m) (W := W) (t := t) (w := w) ht h32) (by omega) ?_
  dsimp only [Option.toList, List.cons_append, List.nil_append]
  refine zeB1 rfl rfl (fun h1 => ?_) (fun h1 => ?_)
  · refine zeKn (c := 0) rfl rfl rfl ?_
    refine zeP rfl rfl ?_
    simp only [q_takesB, h1, cond_true, cond_false]
    exact p_takesC (t := t) (l := l) (w := w) (f := (Int32.ofNat 0)) (W := W) (m := m) (by omega) hk ht hl h32
  · refine zeKn (c := 1) rfl rfl rfl ?_
    refine zeP rfl rfl ?_
    refine zeP rfl rfl ?_
    simp only [q_takesB, h1, cond_true, cond_false]
    exact p_takesC (t := t) (l := l) (w := w) (f := (Int32.ofNat 1)) (W := W) (m := m) (by omega) hk ht hl h32
noncomputable def q_takes (m : Nat → Nat → Int32) (W : Nat → Int32) (t : Nat) (l : Nat) : Int32 × (Nat → Int32) × (Nat → Nat → Int32) := (bif zc1 .ne (q_reads m W t ((Int32.ofNat (nv W (16 + l))))).1 then (q_takesB ((q_reads m W t ((Int32.ofNat (nv W (16 + l))))).2.2) ((q_reads m W t ((Int32.ofNat (nv W (16 + l))))).2.1) t l ((nv W (16 + l)))) else ((Int32.ofNat 0), (q_reads m W t ((Int32.ofNat (nv W (16 + l))))).2.1, (q_reads m W t ((Int32.ofNat (nv W (16 + l))))).2.2))
theorem p_takes {σ : Nat → Nat × (Nat → Int32)} {yy : (Nat → Nat → Int64) × Bool × Nat × Nat} {m : Nat → Nat → Int32} {W : Nat → Int32} {t : Nat} {l : Nat} {d : Nat} (hd : 7 ≤ d + 1) (hk : KG W t) (ht : t < 4) (hl : l < 4) : zEv σ (d + 1) 1829 0 [some (.ref 137), some (.int (Int32.ofNat t)), some (.int (Int32.ofNat l)), none, none] [] (zS1, zrow m 138 W, yy) (.inl (some (.int (q_takes m W t l).1))) (zS1, zrow ((q_takes m W t l).2.2) 138 ((q_takes m W t l).2.1), yy) := by
  refine zeP rfl rfl ?_
  refine zeGR rfl rfl zS137 rfl rfl ?_
  refine zeKn (c := 16) rfl rfl rfl ?_
  refine zeP rfl rfl ?_
  refine zeAdd rfl ?_
  refine zeWL (k := (16 + l)) rfl (by omega) ?_
  rw [(hk.1.lkw hl).1]
  refine zeP rfl rfl ?_
  refine zeP rfl rfl ?_
  refine zeP rfl rfl ?_
  refine zeP rfl rfl ?_
  refine zeCF rfl rfl rfl rfl rfl rfl (c_reads (m := m) (W := W) (t := t) (w := (Int32.ofNat (nv W (16 + l)))) hk.1 ht) (by omega) ?_
  dsimp only [Option.toList, List.cons_append, List.nil_append]
  refine zeB1 rfl rfl (fun h1 => ?_) (fun h1 => ?_)
  · simp only [q_takes, h1, cond_true, cond_false]
    exact p_takesB (t := t) (l := l) (w := (nv W (16 + l))) (W := (q_reads m W t ((Int32.ofNat (nv W (16 + l))))).2.1) (m := (q_reads m W t ((Int32.ofNat (nv W (16 + l))))).2.2) (by omega) (hk.reads ht _) ht hl (hk.1.lk32 hl)
  · refine zeKn (c := 0) rfl rfl rfl ?_
    exact zeRe rfl rfl rfl rfl (by simp only [q_takes, h1, cond_true, cond_false] <;> rfl) (by simp only [q_takes, h1, cond_true, cond_false] <;> rfl)
theorem c_takes {σ : Nat → Nat × (Nat → Int32)} {yy : (Nat → Nat → Int64) × Bool × Nat × Nat} {m : Nat → Nat → Int32} {W : Nat → Int32} {t : Nat} {l : Nat} (hk : KG W t) (ht : t < 4) (hl : l < 4) : zF σ 7 1829 [.ref 137, .int (Int32.ofNat t), .int (Int32.ofNat l)] (zS1, zrow m 138 W, yy) (.inl (some (.int (q_takes m W t l).1))) (zS1, zrow ((q_takes m W t l).2.2) 138 ((q_takes m W t l).2.1), yy) := by
  intro d hd
  obtain ⟨d, rfl⟩ : ∃ k, d = k + 1 := ⟨d - 1, by omega⟩
  exact p_takes hd hk ht hl
noncomputable def l_isKept (t : Nat) (l : Nat) : Nat → Nat → (Nat → Int32) → (Nat → Int32)
  | 0, k, W => (q_logs ((q_ends ((upd ((upd ((upd ((upd W (20 + l) (if ((W (20 + l)) + (W 5)) < (Int32.ofNat 15) then ((W (20 + l)) + (W 5)) else (Int32.ofNat 15)))) (28 + l) ((((upd W (20 + l) (if ((W (20 + l)) + (W 5)) < (Int32.ofNat 15) then ((W (20 + l)) + (W 5)) else (Int32.ofNat 15)))) (28 + l)) + (Int32.ofNat 1)))) (376 + 103 * t + 3) (Int32.ofNat 0))) (376 + 103 * t + 4) ((((upd ((upd ((upd W (20 + l) (if ((W (20 + l)) + (W 5)) < (Int32.ofNat 15) then ((W (20 + l)) + (W 5)) else (Int32.ofNat 15)))) (28 + l) ((((upd W (20 + l) (if ((W (20 + l)) + (W 5)) < (Int32.ofNat 15) then ((W (20 + l)) + (W 5)) else (Int32.ofNat 15)))) (28 + l)) + (Int32.ofNat 1)))) (376 + 103 * t + 3) (Int32.ofNat 0))) (376 + 103 * t + 4)) + (Int32.ofNat 1)))) t)) ((Int32.ofNat t)) ((Int32.ofNat 1)) ((Int32.ofNat l)))
  | n + 1, k, W => (bif zc1 .eq (q_holds ((q_of W t 17)) k) then (l_isKept t l n ((k + 1)) W) else (l_isKept t l n ((k + 1)) ((upd W (32 + k) (q_of W t ((23 + k)))))))
theorem w_isKept {σ : Nat → Nat × (Nat → Int32)} {yy : (Nat → Nat → Int64) × Bool × Nat × Nat} {m : Nat → Nat → Int32} {t : Nat} {l : Nat} {d : Nat} (hd : 3 ≤ d + 1) (ht : t < 4) (hl : l < 4) : ∀ (n : Nat) (k : Nat) (W : Nat → Int32), k + n = 32 → WC W → zEv σ (d + 1) 1830 2 [some (.ref 137), some (.int (Int32.ofNat t)), some (.int (Int32.ofNat l)), some (.int (Int32.ofNat k))] [] (zS1, zrow m 138 W, yy) (.inl none) (zS1, zrow m 138 ((l_isKept t l n k W)), yy) := by
  intro n
  induction n with
  | zero =>
    intro k W hk hC
    refine zeP rfl rfl ?_
    refine zeKn (c := 32) rfl rfl rfl ?_
    refine zeT2 rfl rfl (zcge (by omega) (by omega) (by omega)) ?_
    refine zeP rfl rfl ?_
    refine zeGR rfl rfl zS137 rfl rfl ?_
    refine zeKn (c := 20) rfl rfl rfl ?_
    refine zeP rfl rfl ?_
    refine zeAdd rfl ?_
    refine zeKn (c := 15) rfl rfl rfl ?_
    refine zeP rfl rfl ?_
    refine zeGR rfl rfl zS137 rfl rfl ?_
    refine zeKn (c := 20) rfl rfl rfl ?_
    refine zeP rfl rfl ?_
    refine zeAdd rfl ?_
    refine zeWL (k := (20 + l)) rfl (by omega) ?_
    refine zeP rfl rfl ?_
    refine zeGR rfl rfl zS137 rfl rfl ?_
    refine zeKn (c := 5) rfl rfl rfl ?_
    refine zeWL (k := 5) rfl (by omega) ?_
    refine zeP rfl rfl ?_
    refine zeM rfl rfl rfl rfl rfl rfl rfl ?_
    refine zeWS (k := (20 + l)) rfl (by omega) ?_
    refine zeP rfl rfl ?_
    refine zeGR rfl rfl zS137 rfl rfl ?_
    refine zeKn (c := 28) rfl rfl rfl ?_
    refine zeP rfl rfl ?_
    refine zeAdd rfl ?_
    refine zeP rfl rfl ?_
    refine zeWL (k := (28 + l)) rfl (by omega) ?_
    refine zeKn (c := 1) rfl rfl rfl ?_
    refine zeP rfl rfl ?_
    refine zeWS (k := (28 + l)) rfl (by omega) ?_
    refine zeP rfl rfl ?_
    refine zeGR rfl rfl zS137 rfl rfl ?_
    refine zeP rfl rfl ?_
    refine zeKn (c := 3) rfl rfl rfl ?_
    refine zeCF rfl rfl rfl rfl rfl rfl (c_at (m := m) (W := (upd ((upd W (20 + l) (if ((W (20 + l)) + (W 5)) < (Int32.ofNat 15) then ((W (20 + l)) + (W 5)) else (Int32.ofNat 15)))) (28 + l) ((((upd W (20 + l) (if ((W (20 + l)) + (W 5)) < (Int32.ofNat 15) then ((W (20 + l)) + (W 5)) else (Int32.ofNat 15)))) (28 + l)) + (Int32.ofNat 1)))) (t := t) (k := 3) ) (by omega) ?_
    dsimp only [Option.toList, List.cons_append, List.nil_append]
    refine zeKn (c := 0) rfl rfl rfl ?_
    refine zeWS (k := (376 + 103 * t + 3)) rfl (by omega) ?_
    refine zeP rfl rfl ?_
    refine zeGR rfl rfl zS137 rfl rfl ?_
    refine zeP rfl rfl ?_
    refine zeKn (c := 4) rfl rfl rfl ?_
    refine zeCF rfl rfl rfl rfl rfl rfl (c_at (m := m) (W := (upd ((upd ((upd W (20 + l) (if ((W (20 + l)) + (W 5)) < (Int32.ofNat 15) then ((W (20 + l)) + (W 5)) else (Int32.ofNat 15)))) (28 + l) ((((upd W (20 + l) (if ((W (20 + l)) + (W 5)) < (Int32.ofNat 15) then ((W (20 + l)) + (W 5)) else (Int32.ofNat 15)))) (28 + l)) + (Int32.ofNat 1)))) (376 + 103 * t + 3) (Int32.ofNat 0))) (t := t) (k := 4) ) (by omega) ?_
    dsimp only [Option.toList, List.cons_append, List.nil_append]
    refine zeP rfl rfl ?_
    refine zeWL (k := (376 + 103 * t + 4)) rfl (by omega) ?_
    refine zeKn (c := 1) rfl rfl rfl ?_
    refine zeP rfl rfl ?_
    refine zeWS (k := (376 + 103 * t + 4)) rfl (by omega) ?_
    refine zeP rfl rfl ?_
    refine zeP rfl rfl ?_
    refine zeCF rfl rfl rfl rfl rfl rfl (c_ends (m := m) (W := (upd ((upd ((upd ((upd W (20 + l) (if ((W (20 + l)) + (W 5)) < (Int32.ofNat 15) then ((W (20 + l)) + (W 5)) else (Int32.ofNat 15)))) (28 + l) ((((upd W (20 + l) (if ((W (20 + l)) + (W 5)) < (Int32.ofNat 15) then ((W (20 + l)) + (W 5)) else (Int32.ofNat 15)))) (28 + l)) + (Int32.ofNat 1)))) (376 + 103 * t + 3) (Int32.ofNat 0))) (376 + 103 * t + 4) ((((upd ((upd ((upd W (20 + l) (if ((W (20 + l)) + (W 5)) < (Int32.ofNat 15) then ((W (20 + l)) + (W 5)) else (Int32.ofNat 15)))) (28 + l) ((((upd W (20 + l) (if ((W (20 + l)) + (W 5)) < (Int32.ofNat 15) then ((W (20 + l)) + (W 5)) else (Int32.ofNat 15)))) (28 + l)) + (Int32.ofNat 1)))) (376 + 103 * t + 3) (Int32.ofNat 0))) (376 + 103 * t + 4)) + (Int32.ofNat 1)))) (t := t) (by first | assumption | omega)) (by omega) ?_
    dsimp only [Option.toList, List.cons_append, List.nil_append]
    refine zeP rfl rfl ?_
    refine zeP rfl rfl ?_
    refine zeKn (c := 1) rfl rfl rfl ?_
    refine zeP rfl rfl ?_
    refine zeCF rfl rfl rfl rfl rfl rfl (c_logs (m := m) (W := (q_ends ((upd ((upd ((upd ((upd W (20 + l) (if ((W (20 + l)) + (W 5)) < (Int32.ofNat 15) then ((W (20 + l)) + (W 5)) else (Int32.ofNat 15)))) (28 + l) ((((upd W (20 + l) (if ((W (20 + l)) + (W 5)) < (Int32.ofNat 15) then ((W (20 + l)) + (W 5)) else (Int32.ofNat 15)))) (28 + l)) + (Int32.ofNat 1)))) (376 + 103 * t + 3) (Int32.ofNat 0))) (376 + 103 * t + 4) ((((upd ((upd ((upd W (20 + l) (if ((W (20 + l)) + (W 5)) < (Int32.ofNat 15) then ((W (20 + l)) + (W 5)) else (Int32.ofNat 15)))) (28 + l) ((((upd W (20 + l) (if ((W (20 + l)) + (W 5)) < (Int32.ofNat 15) then ((W (20 + l)) + (W 5)) else (Int32.ofNat 15)))) (28 + l)) + (Int32.ofNat 1)))) (376 + 103 * t + 3) (Int32.ofNat 0))) (376 + 103 * t + 4)) + (Int32.ofNat 1)))) t)) (t := (Int32.ofNat t)) (w := (Int32.ofNat 1)) (v := (Int32.ofNat l)) (by simp (disch := omega) only [nv, q_ends,  upd_ne]; exact hC.1) (by simp (disch := omega) only [nv, q_ends,  upd_ne]; exact hC.2)) (by omega) ?_
    dsimp only [Option.toList, List.cons_append, List.nil_append]
    exact zeRe rfl rfl rfl rfl (by rfl) (by rfl)
  | succ n ih =>
    intro k W hk hC
    refine zeP rfl rfl ?_
    refine zeKn (c := 32) rfl rfl rfl ?_
    refine zeF2 rfl rfl (zcge_f (by omega) (by omega) (by omega)) ?_
    refine zeP rfl rfl ?_
    refine zeP rfl rfl ?_
    refine zeKn (c := 17) rfl rfl rfl ?_
    refine zeCF rfl rfl rfl rfl rfl rfl (c_of (m := m) (W := W) (t := t) (k := 17) (by first | assumption | omega)) (by omega) ?_
    dsimp only [Option.toList, List.cons_append, List.nil_append]
    refine zeP rfl rfl ?_
    refine zeCF rfl rfl rfl rfl rfl rfl (c_holds (m := m) (W := W) (s := (q_of W t 17)) (k := k) ) (by omega) ?_
    dsimp only [Option.toList, List.cons_append, List.nil_append]
    refine zeB1 rfl rfl (fun h1 => ?_) (fun h1 => ?_)
    · refine zeInc rfl rfl ?_
      refine zeP rfl rfl ?_
      simp only [l_isKept, h1, cond_true, cond_false]
      exact ih ((k + 1)) W  (by omega) (by first | exact hC | exact WC_of (upd_ne _ _ (by omega)) hC)
    · refine zeP rfl rfl ?_
      refine zeGR rfl rfl zS137 rfl rfl ?_
      refine zeKn (c := 32) rfl rfl rfl ?_
      refine zeP rfl rfl ?_
      refine zeAdd rfl ?_
      refine zeP rfl rfl ?_
      refine zeP rfl rfl ?_
      refine zeKn (c := 23) rfl rfl rfl ?_
      refine zeP rfl rfl ?_
      refine zeAdd rfl ?_
      refine zeCF rfl rfl rfl rfl rfl rfl (c_of (m := m) (W := W) (t := t) (k := (23 + k)) (by first | assumption | omega)) (by omega) ?_
      dsimp only [Option.toList, List.cons_append, List.nil_append]
      refine zeWS (k := (32 + k)) rfl (by omega) ?_
      refine zeInc rfl rfl ?_
      refine zeP rfl rfl ?_
      simp only [l_isKept, h1, cond_true, cond_false]
      exact ih ((k + 1)) ((upd W (32 + k) (q_of W t ((23 + k)))))  (by omega) (by first | exact hC | exact WC_of (upd_ne _ _ (by omega)) hC)
noncomputable def q_isKept (W : Nat → Int32) (t : Nat) (l : Nat) : (Nat → Int32) := (l_isKept t l 32 0 W)
theorem p_isKept {σ : Nat → Nat × (Nat → Int32)} {yy : (Nat → Nat → Int64) × Bool × Nat × Nat} {m : Nat → Nat → Int32} {W : Nat → Int32} {t : Nat} {l : Nat} {d : Nat} (hd : 3 ≤ d + 1) (ht : t < 4) (hl : l < 4) (hC : WC W) : zEv σ (d + 1) 1830 0 [some (.ref 137), some (.int (Int32.ofNat t)), some (.int (Int32.ofNat l)), none] [] (zS1, zrow m 138 W, yy) (.inl none) (zS1, zrow m 138 ((q_isKept W t l)), yy) := by
  refine zeKn (c := 0) rfl rfl rfl ?_
  refine zeP rfl rfl ?_
  simp only [q_isKept, cond_true, cond_false]
  exact w_isKept (t := t) (l := l) (m := m) (by omega) ht hl 32 (0) W  (by omega) hC
theorem c_isKept {σ : Nat → Nat × (Nat → Int32)} {yy : (Nat → Nat → Int64) × Bool × Nat × Nat} {m : Nat → Nat → Int32} {W : Nat → Int32} {t : Nat} {l : Nat} (ht : t < 4) (hl : l < 4) (hC : WC W) : zF σ 3 1830 [.ref 137, .int (Int32.ofNat t), .int (Int32.ofNat l)] (zS1, zrow m 138 W, yy) (.inl none) (zS1, zrow m 138 ((q_isKept W t l)), yy) := by
  intro d hd
  obtain ⟨d, rfl⟩ : ∃ k, d = k + 1 := ⟨d - 1, by omega⟩
  exact p_isKept hd ht hl hC
noncomputable def q_drops (m : Nat → Nat → Int32) (W : Nat → Int32) (t : Nat) (l : Nat) : Int32 × (Nat → Int32) × (Nat → Nat → Int32) := (bif zc2 .ne (q_placeLeft W t ((Int32.ofNat l))) (-1) then (bif zc2 .eq (q_placeLeft W t ((Int32.ofNat l))) ((q_of W t 10) - (Int32.ofNat 1)) then (bif zc1 .ne (q_placeLeft W t ((Int32.ofNat l))) then ((Int32.ofNat 1), (upd W (376 + 103 * t + 10) ((W (376 + 103 * t + 10)) - (Int32.ofNat 1))), m) else ((Int32.ofNat 1), (q_isKept W t l), m)) else ((Int32.ofNat 0), (q_itFalls m W t 2).1, (q_itFalls m W t 2).2)) else (bif zc2 .ne (q_of W t 2) (Int32.ofNat 1) then (bif zc1 .ne (q_writes m W t ((nv W (16 + l))) ((Int32.ofNat 0))).1 then ((Int32.ofNat 1), (q_logs ((q_writes m W t ((nv W (16 + l))) ((Int32.ofNat 0))).2.1) ((Int32.ofNat t)) ((Int32.ofNat 4)) ((Int32.ofNat l))), (q_writes m W t ((nv W (16 + l))) ((Int32.ofNat 0))).2.2) else ((Int32.ofNat 0), (q_writes m W t ((nv W (16 + l))) ((Int32.ofNat 0))).2.1, (q_writes m W t ((nv W (16 + l))) ((Int32.ofNat 0))).2.2)) else (bif zc1 .ne (q_writes m W t ((nv W (16 + l))) ((Int32.ofNat 0))).1 then ((Int32.ofNat 1), (q_writes m W t ((nv W (16 + l))) ((Int32.ofNat 0))).2.1, (q_writes m W t ((nv W (16 + l))) ((Int32.ofNat 0))).2.2) else ((Int32.ofNat 0), (q_writes m W t ((nv W (16 + l))) ((Int32.ofNat 0))).2.1, (q_writes m W t ((nv W (16 + l))) ((Int32.ofNat 0))).2.2))))
theorem p_drops {σ : Nat → Nat × (Nat → Int32)} {yy : (Nat → Nat → Int64) × Bool × Nat × Nat} {m : Nat → Nat → Int32} {W : Nat → Int32} {t : Nat} {l : Nat} {d : Nat} (hd : 7 ≤ d + 1) (hk : KG W t) (ht : t < 4) (hl : l < 4) : zEv σ (d + 1) 1831 0 [some (.ref 137), some (.int (Int32.ofNat t)), some (.int (Int32.ofNat l)), none, none] [] (zS1, zrow m 138 W, yy) (.inl (some (.int (q_drops m W t l).1))) (zS1, zrow ((q_drops m W t l).2.2) 138 ((q_drops m W t l).2.1), yy) := by
  refine zeP rfl rfl ?_
  refine zeP rfl rfl ?_
  refine zeP rfl rfl ?_
  refine zeCF rfl rfl rfl rfl rfl rfl (c_placeLeft (m := m) (W := W) (t := t) (l := (Int32.ofNat l)) ht (hk.1.2 t ht).2.1.1 (hk.1.2 t ht).2.1.2.2) (by omega) ?_
  dsimp only [Option.toList, List.cons_append, List.nil_append]
  refine zeP rfl rfl ?_
  refine zeP rfl rfl ?_
  refine zeK (v := -1) rfl rfl rfl ?_
  refine zeB2 rfl rfl (fun h1 => ?_) (fun h1 => ?_)
  · refine zeP rfl rfl ?_
    refine zeP rfl rfl ?_
    refine zeP rfl rfl ?_
    refine zeKn (c := 10) rfl rfl rfl ?_
    refine zeCF rfl rfl rfl rfl rfl rfl (c_of (m := m) (W := W) (t := t) (k := 10) (by first | assumption | omega)) (by omega) ?_
    dsimp only [Option.toList, List.cons_append, List.nil_append]
    refine zeKn (c := 1) rfl rfl rfl ?_
    refine zeP rfl rfl ?_
    refine zeB2 rfl rfl (fun h2 => ?_) (fun h2 => ?_)
    · refine zeP rfl rfl ?_
      refine zeB1 rfl rfl (fun h3 => ?_) (fun h3 => ?_)
      · refine zeP rfl rfl ?_
        refine zeGR rfl rfl zS137 rfl rfl ?_
        refine zeP rfl rfl ?_
        refine zeKn (c := 10) rfl rfl rfl ?_
        refine zeCF rfl rfl rfl rfl rfl rfl (c_at (m := m) (W := W) (t := t) (k := 10) ) (by omega) ?_
        dsimp only [Option.toList, List.cons_append, List.nil_append]
        refine zeP rfl rfl ?_
        refine zeWL (k := (376 + 103 * t + 10)) rfl (by omega) ?_
        refine zeKn (c := 1) rfl rfl rfl ?_
        refine zeP rfl rfl ?_
        refine zeWS (k := (376 + 103 * t + 10)) rfl (by omega) ?_
        refine zeKn (c := 1) rfl rfl rfl ?_
        exact zeRe rfl rfl rfl rfl (by simp only [q_drops, h1, h2, h3, cond_true, cond_false] <;> rfl) (by simp only [q_drops, h1, h2, h3, cond_true, cond_false] <;> rfl)
      · refine zeP rfl rfl ?_
        refine zeP rfl rfl ?_
        refine zeP rfl rfl ?_
        refine zeCF rfl rfl rfl rfl rfl rfl (c_isKept (m := m) (W := W) (t := t) (l := l) ht hl hk.1.C) (by omega) ?_
        dsimp only [Option.toList, List.cons_append, List.nil_append]
        refine zeP rfl rfl ?_
        refine zeKn (c := 1) rfl rfl rfl ?_
        exact zeRe rfl rfl rfl rfl (by simp only [q_drops, h1, h2, h3, cond_true, cond_false] <;> rfl) (by simp only [q_drops, h1, h2, h3, cond_true, cond_false] <;> rfl)
    · refine zeP rfl rfl ?_
      refine zeP rfl rfl ?_
      refine zeKn (c := 2) rfl rfl rfl ?_
      refine zeCF rfl rfl rfl rfl rfl rfl (c_itFalls (m := m) (W := W) (t := t) (y := 2) ht (by omega) (hk.1.L t ht).1 (hk.1.L t ht).2 hk.1.C.1 hk.1.C.2) (by omega) ?_
      dsimp only [Option.toList, List.cons_append, List.nil_append]
      refine zeKn (c := 0) rfl rfl rfl ?_
      exact zeRe rfl rfl rfl rfl (by simp only [q_drops, h1, h2, cond_true, cond_false] <;> rfl) (by simp only [q_drops, h1, h2, cond_true, cond_false] <;> rfl)
  · refine zeP rfl rfl ?_
    refine zeP rfl rfl ?_
    refine zeKn (c := 2) rfl rfl rfl ?_
    refine zeCF rfl rfl rfl rfl rfl rfl (c_of (m := m) (W := W) (t := t) (k := 2) (by first | assumption | omega)) (by omega) ?_
    dsimp only [Option.toList, List.cons_append, List.nil_append]
    refine zeKn (c := 1) rfl rfl rfl ?_
    refine zeB2 rfl rfl (fun h4 => ?_) (fun h4 => ?_)
    · refine zeKn (c := 0) rfl rfl rfl ?_
      refine zeP rfl rfl ?_
      refine zeP rfl rfl ?_
      refine zeP rfl rfl ?_
      refine zeP rfl rfl ?_
      refine zeGR rfl rfl zS137 rfl rfl ?_
      refine zeKn (c := 16) rfl rfl rfl ?_
      refine zeP rfl rfl ?_
      refine zeAdd rfl ?_
      refine zeWL (k := (16 + l)) rfl (by omega) ?_
      rw [(hk.1.lkw hl).1]
      refine zeKn (c := 0) rfl rfl rfl ?_
      refine zeCF rfl rfl rfl rfl rfl rfl (c_writes (m := m) (W := W) (t := t) (w := (nv W (16 + l))) (v := (Int32.ofNat 0)) hk.1 ht (hk.1.lk32 hl)) (by omega) ?_
      dsimp only [Option.toList, List.cons_append, List.nil_append]
      refine zeB1 rfl rfl (fun h5 => ?_) (fun h5 => ?_)
      · refine zeP rfl rfl ?_
        refine zeF1 rfl rfl (show zc1 .ne (Int32.ofNat 0) = false by decide) ?_
        refine zeP rfl rfl ?_
        refine zeP rfl rfl ?_
        refine zeKn (c := 4) rfl rfl rfl ?_
        refine zeP rfl rfl ?_
        refine zeCF rfl rfl rfl rfl rfl rfl (c_logs (m := (q_writes m W t ((nv W (16 + l))) ((Int32.ofNat 0))).2.2) (W := (q_writes m W t ((nv W (16 + l))) ((Int32.ofNat 0))).2.1) (t := (Int32.ofNat t)) (w := (Int32.ofNat 4)) (v := (Int32.ofNat l)) (hk.writes (m := m) ht (hk.1.lk32 hl) _).1.C.1 (hk.writes (m := m) ht (hk.1.lk32 hl) _).1.C.2) (by omega) ?_
        dsimp only [Option.toList, List.cons_append, List.nil_append]
        refine zeKn (c := 1) rfl rfl rfl ?_
        exact zeRe rfl rfl rfl rfl (by simp only [q_drops, h1, h4, h5, cond_true, cond_false] <;> rfl) (by simp only [q_drops, h1, h4, h5, cond_true, cond_false] <;> rfl)
      · refine zeKn (c := 0) rfl rfl rfl ?_
        exact zeRe rfl rfl rfl rfl (by simp only [q_drops, h1, h4, h5, cond_true, cond_false] <;> rfl) (by simp only [q_drops, h1, h4, h5, cond_true, cond_false] <;> rfl)
    · refine zeKn (c := 1) rfl rfl rfl ?_
      refine zeP rfl rfl ?_
      refine zeP rfl rfl ?_
      refine zeP rfl rfl ?_
      refine zeP rfl rfl ?_
      refine zeP rfl rfl ?_
      refine zeGR rfl rfl zS137 rfl rfl ?_
      refine zeKn (c := 16) rfl rfl rfl ?_
      refine zeP rfl rfl ?_
      refine zeAdd rfl ?_
      refine zeWL (k := (16 + l)) rfl (by omega) ?_
      rw [(hk.1.lkw hl).1]
      refine zeKn (c := 0) rfl rfl rfl ?_
      refine zeCF rfl rfl rfl rfl rfl rfl (c_writes (m := m) (W := W) (t := t) (w := (nv W (16 + l))) (v := (Int32.ofNat 0)) hk.1 ht (hk.1.lk32 hl)) (by omega) ?_
      dsimp only [Option.toList, List.cons_append, List.nil_append]
      refine zeB1 rfl rfl (fun h6 => ?_) (fun h6 => ?_)
      · refine zeP rfl rfl ?_
        refine zeT1 rfl rfl (show zc1 .ne (Int32.ofNat 1) = true by decide) ?_
        refine zeKn (c := 1) rfl rfl rfl ?_
        exact zeRe rfl rfl rfl rfl (by simp only [q_drops, h1, h4, h6, cond_true, cond_false] <;> rfl) (by simp only [q_drops, h1, h4, h6, cond_true, cond_false] <;> rfl)
      · refine zeKn (c := 0) rfl rfl rfl ?_
        exact zeRe rfl rfl rfl rfl (by simp only [q_drops, h1, h4, h6, cond_true, cond_false] <;> rfl) (by simp only [q_drops, h1, h4, h6, cond_true, cond_false] <;> rfl)
theorem c_drops {σ : Nat → Nat × (Nat → Int32)} {yy : (Nat → Nat → Int64) × Bool × Nat × Nat} {m : Nat → Nat → Int32} {W : Nat → Int32} {t : Nat} {l : Nat} (hk : KG W t) (ht : t < 4) (hl : l < 4) : zF σ 7 1831 [.ref 137, .int (Int32.ofNat t), .int (Int32.ofNat l)] (zS1, zrow m 138 W, yy) (.inl (some (.int (q_drops m W t l).1))) (zS1, zrow ((q_drops m W t l).2.2) 138 ((q_drops m W t l).2.1), yy) := by
  intro d hd
  obtain ⟨d, rfl⟩ : ∃ k, d = k + 1 := ⟨d - 1, by omega⟩
  exact p_drops hd hk ht hl
noncomputable def q_putsOut (m : Nat → Nat → Int32) (W : Nat → Int32) (t : Nat) : Int32 × (Nat → Int32) × (Nat → Nat → Int32) := (bif zc2 .ne (q_of W t 2) (Int32.ofNat 1) then (bif zc2 .ge (Int32.ofNat (nv W 14)) (Int32.ofNat 20) then ((Int32.ofNat 1), (q_logs W ((Int32.ofNat t)) ((Int32.ofNat 5)) ((q_of W t 1))), m) else ((Int32.ofNat 1), (q_logs ((upd ((upd ((upd W (96 + (2 * (nv W 14))) (Int32.ofNat t))) ((96 + (2 * (nv W 14))) + 1) (q_of ((upd W (96 + (2 * (nv W 14))) (Int32.ofNat t))) t 1))) 14 ((((upd ((upd W (96 + (2 * (nv W 14))) (Int32.ofNat t))) ((96 + (2 * (nv W 14))) + 1) (q_of ((upd W (96 + (2 * (nv W 14))) (Int32.ofNat t))) t 1))) 14) + (Int32.ofNat 1)))) ((Int32.ofNat t)) ((Int32.ofNat 5)) ((q_of ((upd ((upd ((upd W (96 + (2 * (nv W 14))) (Int32.ofNat t))) ((96 + (2 * (nv W 14))) + 1) (q_of ((upd W (96 + (2 * (nv W 14))) (Int32.ofNat t))) t 1))) 14 ((((upd ((upd W (96 + (2 * (nv W 14))) (Int32.ofNat t))) ((96 + (2 * (nv W 14))) + 1) (q_of ((upd W (96 + (2 * (nv W 14))) (Int32.ofNat t))) t 1))) 14) + (Int32.ofNat 1)))) t 1))), m)) else ((Int32.ofNat 0), (q_itFalls m W t 3).1, (q_itFalls m W t 3).2))
theorem p_putsOut {σ : Nat → Nat × (Nat → Int32)} {yy : (Nat → Nat → Int64) × Bool × Nat × Nat} {m : Nat → Nat → Int32} {W : Nat → Int32} {t : Nat} {d : Nat} (hd : 5 ≤ d + 1) (hk : KG W t) (ht : t < 4) (hO : W 14 = Int32.ofNat (nv W 14)) (hO20 : nv W 14 ≤ 20) : zEv σ (d + 1) 1833 0 [some (.ref 137), some (.int (Int32.ofNat t))] [] (zS1, zrow m 138 W, yy) (.inl (some (.int (q_putsOut m W t).1))) (zS1, zrow ((q_putsOut m W t).2.2) 138 ((q_putsOut m W t).2.1), yy) := by
  refine zeP rfl rfl ?_
  refine zeP rfl rfl ?_
  refine zeKn (c := 2) rfl rfl rfl ?_
  refine zeCF rfl rfl rfl rfl rfl rfl (c_of (m := m) (W := W) (t := t) (k := 2) (by first | assumption | omega)) (by omega) ?_
  dsimp only [Option.toList, List.cons_append, List.nil_append]
  refine zeKn (c := 1) rfl rfl rfl ?_
  refine zeB2 rfl rfl (fun h1 => ?_) (fun h1 => ?_)
  · refine zeP rfl rfl ?_
    refine zeGR rfl rfl zS137 rfl rfl ?_
    refine zeKn (c := 14) rfl rfl rfl ?_
    refine zeWL (k := 14) rfl (by omega) ?_
    rw [hO]
    refine zeKn (c := 20) rfl rfl rfl ?_
    refine zeB2 rfl rfl (fun h2 => ?_) (fun h2 => ?_)
    · refine zeP rfl rfl ?_
      refine zeP rfl rfl ?_
      refine zeKn (c := 5) rfl rfl rfl ?_
      refine zeP rfl rfl ?_
      refine zeP rfl rfl ?_
      refine zeKn (c := 1) rfl rfl rfl ?_
      refine zeCF rfl rfl rfl rfl rfl rfl (c_of (m := m) (W := W) (t := t) (k := 1) (by first | assumption | omega)) (by omega) ?_
      dsimp only [Option.toList, List.cons_append, List.nil_append]
      refine zeCF rfl rfl rfl rfl rfl rfl (c_logs (m := m) (W := W) (t := (Int32.ofNat t)) (w := (Int32.ofNat 5)) (v := (q_of W t 1)) (by first | exact hk.1.C.1 | (simp (disch := omega) only [nv, upd_ne]; exact hk.1.C.1)) (by first | exact hk.1.C.2 | (simp (disch := omega) only [nv, upd_ne]; exact hk.1.C.2))) (by omega) ?_
      dsimp only [Option.toList, List.cons_append, List.nil_append]
      refine zeKn (c := 1) rfl rfl rfl ?_
      exact zeRe rfl rfl rfl rfl (by simp only [q_putsOut, h1, h2, cond_true, cond_false] <;> rfl) (by simp only [q_putsOut, h1, h2, cond_true, cond_false] <;> rfl)
    · refine zeP rfl rfl ?_
      refine zeGR rfl rfl zS137 rfl rfl ?_
      refine zeKn (c := 96) rfl rfl rfl ?_
      refine zeKn (c := 2) rfl rfl rfl ?_
      refine zeP rfl rfl ?_
      refine zeGR rfl rfl zS137 rfl rfl ?_
      refine zeKn (c := 14) rfl rfl rfl ?_
      refine zeWL (k := 14) rfl (by omega) ?_
      rw [hO]
      refine zeMul rfl ?_
      refine zeAdd rfl ?_
      refine zeP rfl rfl ?_
      refine zeWS (k := (96 + (2 * (nv W 14)))) rfl (by omega) ?_
      refine zeP rfl rfl ?_
      refine zeGR rfl rfl zS137 rfl rfl ?_
      refine zeKn (c := 96) rfl rfl rfl ?_
      refine zeKn (c := 2) rfl rfl rfl ?_
      refine zeP rfl rfl ?_
      refine zeGR rfl rfl zS137 rfl rfl ?_
      refine zeKn (c := 14) rfl rfl rfl ?_
      refine zeWL (k := 14) rfl (by omega) ?_
      rw [(show (upd W (96 + (2 * (nv W 14))) (Int32.ofNat t)) 14 = Int32.ofNat (nv W 14) from by rw [upd_ne _ _ (by omega)]; exact hO)]
      refine zeMul rfl ?_
      refine zeAdd rfl ?_
      refine zeKn (c := 1) rfl rfl rfl ?_
      refine zeAdd rfl ?_
      refine zeP rfl rfl ?_
      refine zeP rfl rfl ?_
      refine zeKn (c := 1) rfl rfl rfl ?_
      refine zeCF rfl rfl rfl rfl rfl rfl (c_of (m := m) (W := (upd W (96 + (2 * (nv W 14))) (Int32.ofNat t))) (t := t) (k := 1) (by first | assumption | omega)) (by omega) ?_
      dsimp only [Option.toList, List.cons_append, List.nil_append]
      refine zeWS (k := ((96 + (2 * (nv W 14))) + 1)) rfl (by omega) ?_
      refine zeP rfl rfl ?_
      refine zeGR rfl rfl zS137 rfl rfl ?_
      refine zeKn (c := 14) rfl rfl rfl ?_
      refine zeP rfl rfl ?_
      refine zeWL (k := 14) rfl (by omega) ?_
      refine zeKn (c := 1) rfl rfl rfl ?_
      refine zeP rfl rfl ?_
      refine zeWS (k := 14) rfl (by omega) ?_
      refine zeP rfl rfl ?_
      refine zeP rfl rfl ?_
      refine zeKn (c := 5) rfl rfl rfl ?_
      refine zeP rfl rfl ?_
      refine zeP rfl rfl ?_
      refine zeKn (c := 1) rfl rfl rfl ?_
      refine zeCF rfl rfl rfl rfl rfl rfl (c_of (m := m) (W := (upd ((upd ((upd W (96 + (2 * (nv W 14))) (Int32.ofNat t))) ((96 + (2 * (nv W 14))) + 1) (q_of ((upd W (96 + (2 * (nv W 14))) (Int32.ofNat t))) t 1))) 14 ((((upd ((upd W (96 + (2 * (nv W 14))) (Int32.ofNat t))) ((96 + (2 * (nv W 14))) + 1) (q_of ((upd W (96 + (2 * (nv W 14))) (Int32.ofNat t))) t 1))) 14) + (Int32.ofNat 1)))) (t := t) (k := 1) (by first | assumption | omega)) (by omega) ?_
      dsimp only [Option.toList, List.cons_append, List.nil_append]
      refine zeCF rfl rfl rfl rfl rfl rfl (c_logs (m := m) (W := (upd ((upd ((upd W (96 + (2 * (nv W 14))) (Int32.ofNat t))) ((96 + (2 * (nv W 14))) + 1) (q_of ((upd W (96 + (2 * (nv W 14))) (Int32.ofNat t))) t 1))) 14 ((((upd ((upd W (96 + (2 * (nv W 14))) (Int32.ofNat t))) ((96 + (2 * (nv W 14))) + 1) (q_of ((upd W (96 + (2 * (nv W 14))) (Int32.ofNat t))) t 1))) 14) + (Int32.ofNat 1)))) (t := (Int32.ofNat t)) (w := (Int32.ofNat 5)) (v := (q_of ((upd ((upd ((upd W (96 + (2 * (nv W 14))) (Int32.ofNat t))) ((96 + (2 * (nv W 14))) + 1) (q_of ((upd W (96 + (2 * (nv W 14))) (Int32.ofNat t))) t 1))) 14 ((((upd ((upd W (96 + (2 * (nv W 14))) (Int32.ofNat t))) ((96 + (2 * (nv W 14))) + 1) (q_of ((upd W (96 + (2 * (nv W 14))) (Int32.ofNat t))) t 1))) 14) + (Int32.ofNat 1)))) t 1)) (by first | exact hk.1.C.1 | (simp (disch := omega) only [nv, upd_ne]; exact hk.1.C.1)) (by first | exact hk.1.C.2 | (simp (disch := omega) only [nv, upd_ne]; exact hk.1.C.2))) (by omega) ?_
      dsimp only [Option.toList, List.cons_append, List.nil_append]
      refine zeKn (c := 1) rfl rfl rfl ?_
      exact zeRe rfl rfl rfl rfl (by simp only [q_putsOut, h1, h2, cond_true, cond_false] <;> rfl) (by simp only [q_putsOut, h1, h2, cond_true, cond_false] <;> rfl)
  · refine zeP rfl rfl ?_
    refine zeP rfl rfl ?_
    refine zeKn (c := 3) rfl rfl rfl ?_
    refine zeCF rfl rfl rfl rfl rfl rfl (c_itFalls (m := m) (W := W) (t := t) (y := 3) ht (by omega) (hk.1.L t ht).1 (hk.1.L t ht).2 hk.1.C.1 hk.1.C.2) (by omega) ?_
    dsimp only [Option.toList, List.cons_append, List.nil_append]
    refine zeKn (c := 0) rfl rfl rfl ?_
    exact zeRe rfl rfl rfl rfl (by simp only [q_putsOut, h1, cond_true, cond_false] <;> rfl) (by simp only [q_putsOut, h1, cond_true, cond_false] <;> rfl)
theorem c_putsOut {σ : Nat → Nat × (Nat → Int32)} {yy : (Nat → Nat → Int64) × Bool × Nat × Nat} {m : Nat → Nat → Int32} {W : Nat → Int32} {t : Nat} (hk : KG W t) (ht : t < 4) (hO : W 14 = Int32.ofNat (nv W 14)) (hO20 : nv W 14 ≤ 20) : zF σ 5 1833 [.ref 137, .int (Int32.ofNat t)] (zS1, zrow m 138 W, yy) (.inl (some (.int (q_putsOut m W t).1))) (zS1, zrow ((q_putsOut m W t).2.2) 138 ((q_putsOut m W t).2.1), yy) := by
  intro d hd
  obtain ⟨d, rfl⟩ : ∃ k, d = k + 1 := ⟨d - 1, by omega⟩
  exact p_putsOut hd hk ht hO hO20
end
section
/-! a step's parts keep the order -/
noncomputable abbrev QT : Type := Int32 × (Nat → Int32) × (Nat → Nat → Int32)
noncomputable def KB (t : Nat) (q : QT) : Prop := KG q.2.1 t ∧ B01 q.1
theorem reads_01 {W : Nat → Int32} {m : Nat → Nat → Int32} {t : Nat} {w : Int32} : B01 (q_reads m W t w).1 := by
  unfold q_reads
  generalize q_clears m W t (q_clash W (Int32.ofNat t) (q_blockOf W w) (Int32.ofNat 0)) = c
  exact cndi (fun q : QT => B01 q.1) (cndi (fun q : QT => B01 q.1) b01_1 b01_1) b01_0
theorem takesD_ok {W : Nat → Int32} {m : Nat → Nat → Int32} {t l w : Nat} {f : Int32} (h : KG W t) (ht : t < 4) : KB t (q_takesD m W t l w f) := by
  unfold q_takesD
  have a4 := h.itFalls (m := m) ht (show 4 < 5 by omega)
  have a2 := h.itFalls (m := m) ht (show 2 < 5 by omega)
  generalize q_itFalls m W t 4 = c4 at a4 ⊢
  generalize q_itFalls m W t 2 = c2 at a2 ⊢
  exact cndi (KB t) ⟨a4, b01_0⟩ ⟨a2, b01_0⟩
theorem takesC_ok {W : Nat → Int32} {m : Nat → Nat → Int32} {t l w : Nat} {f : Int32} (h : KG W t) (ht : t < 4) (hl : l < 4) (hw : w < 32) : KB t (q_takesC m W t l w f) := by
  unfold q_takesC
  have aD := takesD_ok (m := m) (l := l) (w := w) (f := f) h ht
  have aw := h.writes (m := m) ht hw (Int32.ofNat 1)
  have a01 := writes_01 (m := m) (W := W) (t := t) (w := w) (v := Int32.ofNat 1)
  generalize q_takesD m W t l w f = cD at aD ⊢
  generalize q_writes m W t w (Int32.ofNat 1) = cw at aw a01 ⊢
  have ai := aw.isTaken (l := l) ht hl
  generalize q_isTaken cw.2.1 t l = ci at ai ⊢
  refine cndh (KB t) (fun h1 => ?_) (fun h1 => ?_)
  · have ab := h.beginsGuess (l := l) ht hl (h.1.idle ht h1)
    generalize q_beginsGuess W t l = cb at ab ⊢
    exact cndi (KB t) (cndi (KB t) ⟨ai, b01_1⟩ (cndi (KB t) ⟨ai, b01_1⟩ ⟨ab, b01_1⟩)) ⟨h, b01_0⟩
  · refine cndi (KB t) aD (cndi (KB t) (cndh (KB t) (fun h2 => ?_) (fun _ => ⟨aw, a01⟩)) aD)
    exact ⟨h.leavesOut ht hl (zlt4 h.1 ht h2) (zeq1 h1), b01_1⟩
theorem takesB_ok {W : Nat → Int32} {m : Nat → Nat → Int32} {t l w : Nat} (h : KG W t) (ht : t < 4) (hl : l < 4) (hw : w < 32) : KB t (q_takesB m W t l w) := by
  unfold q_takesB
  exact cndi (KB t) (takesC_ok h ht hl hw) (takesC_ok h ht hl hw)
theorem takes_ok {W : Nat → Int32} {m : Nat → Nat → Int32} {t l : Nat} (h : KG W t) (ht : t < 4) (hl : l < 4) : KB t (q_takes m W t l) := by
  unfold q_takes
  have ar := h.reads (m := m) ht (Int32.ofNat (nv W (16 + l)))
  have h32 := h.1.lk32 hl
  generalize q_reads m W t (Int32.ofNat (nv W (16 + l))) = cr at ar ⊢
  exact cndi (KB t) (takesB_ok ar ht hl h32) ⟨ar, b01_0⟩
theorem KG.ends {W : Nat → Int32} {t : Nat} (h : KG W t) (ht : t < 4) : KG (q_ends W t) t := by
  refine ⟨h.1.ends ht, h.2.of ?_ ?_⟩
  · simp (disch := omega) only [q_ends, upd_ne]
  · simp (disch := omega) only [q_ends, upd_ne]
theorem isKept_ok {t l : Nat} (ht : t < 4) (hl : l < 4) : ∀ (n k : Nat) (W : Nat → Int32), k + n = 32 → KG W t → KG (l_isKept t l n k W) t := by
  intro n
  induction n with
  | zero =>
    intro k W hk h
    rw [l_isKept]
    apply KG.logs
    apply KG.ends _ ht
    exact (((h.put ht _ (fre_lo (by omega) (by omega))).put ht _ (fre_lo (by omega) (by omega))).put ht _ (fre_at ht (by omega) (by unfold cT; omega))).put ht _ (fre_at ht (by omega) (by unfold cT; omega))
  | succ n ih =>
    intro k W hk h
    rw [l_isKept]
    exact cndi (fun q : Nat → Int32 => KG q t) (ih _ _ (by omega) h) (ih _ _ (by omega) (h.put ht _ (fre_lo (by omega) (by omega))))
theorem KG.isKept {W : Nat → Int32} {t l : Nat} (h : KG W t) (ht : t < 4) (hl : l < 4) : KG (q_isKept W t l) t := isKept_ok ht hl _ _ _ rfl h
theorem KG.qty {W : Nat → Int32} {t n : Nat} (h : KG W t) (ht : t < 4) (hn : n ≤ 4) (hg : ¬ W (376 + 103 * t + 2) = Int32.ofNat 0) : KG (upd W (376 + 103 * t + 10) (Int32.ofNat n)) t := by
  obtain ⟨hw, hA⟩ := h
  refine ⟨⟨hw.1.of (fun j hj hc => upd_ne _ _ (by omega)) (WC_of (upd_ne _ _ (by omega)) hw.C), fun u hu => ?_⟩, hA.of (upd_ne _ _ (by omega)) (upd_ne _ _ (by omega))⟩
  by_cases hut : u = t
  · subst hut
    refine (hw.2 u hu).of (fun c hc h1 => upd_ne _ _ (by unfold cT at h1; omega)) ((hw.2 u hu).1.of (upd_ne _ _ (by omega))) (ok.is (upd_at _ _ _) (by omega) (by omega) (by omega)) ((hw.2 u hu).2.2.2.2.1.of (upd_ne _ _ (by omega))) ?_
    rw [upd_ne _ _ (by omega)]
    exact fun e => absurd e hg
  · exact (hw.2 u hu).same (fun c hc h1 => upd_ne _ _ (by omega))
theorem KG.outs {W : Nat → Int32} {t n : Nat} (h : KG W t) (hn : n ≤ 20) : KG (upd W 14 (Int32.ofNat n)) t := by
  obtain ⟨hw, hA⟩ := h
  obtain ⟨⟨a0, a2, a7, a9, a14, a15, aK⟩, hT⟩ := hw
  refine ⟨⟨⟨a0.of (upd_ne _ _ (by omega)), a2.of (upd_ne _ _ (by omega)), a7.of (upd_ne _ _ (by omega)), a9.of (upd_ne _ _ (by omega)), ok.is (upd_at _ _ _) (by omega) hn (by omega), a15.of (upd_ne _ _ (by omega)), fun l hl => (aK l hl).of (upd_ne _ _ (by omega))⟩, fun u hu => (hT u hu).same (fun c hc h1 => upd_ne _ _ (by omega))⟩, hA.of (upd_ne _ _ (by omega)) (upd_ne _ _ (by omega))⟩
theorem zsubN {n : Nat} (h : 1 ≤ n) : Int32.ofNat n - Int32.ofNat 1 = Int32.ofNat (n - 1) := by
  have e : n = n - 1 + 1 := by omega
  rw [e, Int32.ofNat_add, Nat.add_sub_cancel, Int32.add_sub_cancel]
theorem drops_ok {W : Nat → Int32} {m : Nat → Nat → Int32} {t l : Nat} (h : KG W t) (ht : t < 4) (hl : l < 4) : KB t (q_drops m W t l) := by
  unfold q_drops
  have h32 := h.1.lk32 hl
  have a2 := h.itFalls (m := m) ht (show 2 < 5 by omega)
  have aw := h.writes (m := m) ht h32 (Int32.ofNat 0)
  have ak := h.isKept (l := l) ht hl
  obtain ⟨b1, b2, b3, b4, b5, b6, b7, b8⟩ := h.1.2 t ht
  generalize q_itFalls m W t 2 = c2 at a2 ⊢
  generalize q_writes m W t (nv W (16 + l)) (Int32.ofNat 0) = cw at aw ⊢
  generalize q_isKept W t l = ck at ak ⊢
  generalize q_placeLeft W t (Int32.ofNat l) = p
  refine cndh (KB t) (fun h1 => cndh (KB t) (fun h2 => cndh (KB t) (fun h3 => ?_) (fun _ => ⟨ak, b01_1⟩)) (fun _ => ⟨a2, b01_0⟩)) (fun _ => ?_)
  · have e2 : p = W (376 + 103 * t + 10) - Int32.ofNat 1 := of_decide_eq_true h2
    have e3 : ¬ p = 0 := of_decide_eq_true h3
    have e1 : ¬ p = -1 := of_decide_eq_true h1
    have hn : 2 ≤ nv W (376 + 103 * t + 10) := by
      apply Nat.le_of_not_lt
      intro hlt
      rw [b2.1] at e2
      match hv : nv W (376 + 103 * t + 10), hlt with
      | 0, _ => rw [hv] at e2; exact e1 (e2.trans (by decide))
      | 1, _ => rw [hv] at e2; exact e3 (e2.trans (by decide))
    refine ⟨?_, b01_1⟩
    have e4 : W (376 + 103 * t + 10) - Int32.ofNat 1 = Int32.ofNat (nv W (376 + 103 * t + 10) - 1) := by
      rw [← zsubN (by omega), ← b2.1]
    show KG (upd W (376 + 103 * t + 10) (W (376 + 103 * t + 10) - Int32.ofNat 1)) t
    rw [e4]
    have b2' := b2.2.2
    refine h.qty ht (by omega) (fun e => ?_)
    have e5 := b7 e
    unfold nv at hn
    rw [e5] at hn
    exact absurd hn (by decide)
  · exact cndi (KB t) (cndi (KB t) ⟨aw.logs _ _ _, b01_1⟩ ⟨aw, b01_0⟩) (cndi (KB t) ⟨aw, b01_1⟩ ⟨aw, b01_0⟩)
theorem putsOut_ok {W : Nat → Int32} {m : Nat → Nat → Int32} {t : Nat} (h : KG W t) (ht : t < 4) : KB t (q_putsOut m W t) := by
  unfold q_putsOut
  have a3 := h.itFalls (m := m) ht (show 3 < 5 by omega)
  have hO := h.1.1.2.2.2.2.1
  generalize q_itFalls m W t 3 = c3 at a3 ⊢
  refine cndi (KB t) (cndh (KB t) (fun _ => ⟨h.logs _ _ _, b01_1⟩) (fun h2 => ⟨KG.logs ?_ _ _ _, b01_1⟩)) ⟨a3, b01_0⟩
  have hlt : nv W 14 < 20 := by
    apply Nat.lt_of_not_le
    intro hge
    have := hO.2.2
    rw [zcge (by omega) (by omega) hge] at h2
    cases h2
  have h5 : KG (upd (upd W (96 + 2 * nv W 14) (Int32.ofNat t)) (96 + 2 * nv W 14 + 1) (q_of (upd W (96 + 2 * nv W 14) (Int32.ofNat t)) t 1)) t :=
    (h.put ht _ (fre_lo (by omega) (by omega))).put ht _ (fre_lo (by omega) (by omega))
  have e14 : upd (upd W (96 + 2 * nv W 14) (Int32.ofNat t)) (96 + 2 * nv W 14 + 1) (q_of (upd W (96 + 2 * nv W 14) (Int32.ofNat t)) t 1) 14 + Int32.ofNat 1 = Int32.ofNat (nv W 14 + 1) := by
    rw [upd_ne _ _ (by omega), upd_ne _ _ (by omega), Int32.ofNat_add, ← hO.1]
  rw [e14]
  exact h5.outs (by omega)
theorem works_ok {W : Nat → Int32} {t : Nat} {n : Int32} (h : KG W t) (ht : t < 4) : KG (q_works W t n).2 t ∧ B01 (q_works W t n).1 := by
  unfold q_works
  refine cndi (fun q : Int32 × (Nat → Int32) => KG q.2 t ∧ B01 q.1) ⟨?_, b01_1⟩ ⟨?_, b01_0⟩
  · exact (h.put ht _ (fre_at ht (by omega) (by unfold cT; omega))).put ht _ (fre_at ht (by omega) (by unfold cT; omega))
  · exact h.put ht _ (fre_at ht (by omega) (by unfold cT; omega))
end
