/-! reads, writes and what begins keep the order -/
theorem cndi {α : Type} (P : α → Prop) {b : Bool} {x y : α} (hx : P x) (hy : P y) : P (bif b then x else y) := by
  cases b with
  | true => exact hx
  | false => exact hy
theorem cndh {α : Type} (P : α → Prop) {b : Bool} {x y : α} (hx : b = true → P x) (hy : b = false → P y) : P (bif b then x else y) := by
  cases b with
  | true => exact hx rfl
  | false => exact hy rfl
def KG (W : Nat → Int32) (t : Nat) : Prop := WG W ∧ AL W t
theorem KG.put {W : Nat → Int32} {t k : Nat} (h : KG W t) (ht : t < 4) (x : Int32) (hk : fre k) : KG (upd W k x) t :=
  ⟨h.1.put x hk, h.2.of (upd_ne _ _ (fun e => hk.2.2.2.2.2.2.2.2 t ht 0 (by omega) e.symm (by omega))) (upd_ne _ _ (fun e => hk.2.2.2.2.2.2.2.2 t ht 22 (by omega) e.symm (by unfold cT; omega)))⟩
theorem KG.logs {W : Nat → Int32} {t : Nat} (h : KG W t) (a b v : Int32) : KG (q_logs W a b v) t := ⟨h.1.logs a b v, h.2.of (logs_at h.1) (logs_at h.1)⟩
theorem KG.falls {W : Nat → Int32} {t o y : Nat} (h : KG W t) (ht : t < 4) (ho : o < 4) (hy : y < 5) : KG (q_falls W o y) t := ⟨h.1.falls ho hy, AL.falls h.1 h.2 ho hy ht⟩
theorem KG.clears {W : Nat → Int32} {m : Nat → Nat → Int32} {t : Nat} (h : KG W t) (ht : t < 4) (s : Int32) : KG (q_clears m W t s).2.1 t := ⟨h.1.clears ht s, AL.clears h.1 h.2 ht s⟩
theorem KG.reads {W : Nat → Int32} {m : Nat → Nat → Int32} {t : Nat} (h : KG W t) (ht : t < 4) (w : Int32) : KG (q_reads m W t w).2.1 t := by
  have h1 := h.clears (m := m) ht (q_clash W (Int32.ofNat t) (q_blockOf W w) (Int32.ofNat 0))
  unfold q_reads
  generalize q_clears m W t (q_clash W (Int32.ofNat t) (q_blockOf W w) (Int32.ofNat 0)) = c at h1 ⊢
  refine cndi (fun q : Int32 × (Nat → Int32) × (Nat → Nat → Int32) => KG q.2.1 t) (cndi (fun q : Int32 × (Nat → Int32) × (Nat → Nat → Int32) => KG q.2.1 t) h1 ?_) h1
  exact h1.put ht _ (fre_at ht (by omega) (by unfold cT; omega))
theorem KG.writesB {W : Nat → Int32} {m : Nat → Nat → Int32} {t w : Nat} (h : KG W t) (ht : t < 4) (hw : w < 32) (v b g : Int32) : KG (q_writesB m W t w v b g).2.1 t := by
  have h1 := h.clears (m := m) ht (q_clash W (Int32.ofNat t) b (Int32.ofNat 1))
  unfold q_writesB
  generalize q_clears m W t (q_clash W (Int32.ofNat t) b (Int32.ofNat 1)) = c at h1 ⊢
  refine cndi (fun q : Int32 × (Nat → Int32) × (Nat → Nat → Int32) => KG q.2.1 t) (cndi (fun q : Int32 × (Nat → Int32) × (Nat → Nat → Int32) => KG q.2.1 t) ?_ ?_) h1
  · exact h1.put ht _ (fre_lo (by omega) (by omega))
  · exact ((h1.put ht _ (fre_at ht (by omega) (by unfold cT; omega))).put ht _ (fre_at ht (by omega) (by unfold cT; omega))).put ht _ (fre_at ht (by omega) (by unfold cT; omega))
theorem KG.itFalls {W : Nat → Int32} {m : Nat → Nat → Int32} {t y : Nat} (h : KG W t) (ht : t < 4) (hy : y < 5) : KG (q_itFalls m W t y).1 t := h.falls ht ht hy
theorem KG.writes {W : Nat → Int32} {m : Nat → Nat → Int32} {t w : Nat} (h : KG W t) (ht : t < 4) (hw : w < 32) (v : Int32) : KG (q_writes m W t w v).2.1 t := by
  unfold q_writes
  have a1 := h.writesB (m := m) ht hw v (q_blockOf W (Int32.ofNat w)) (Int32.ofNat 0)
  have a2 := h.writesB (m := m) ht hw v (q_blockOf W (Int32.ofNat w)) (Int32.ofNat 1)
  have a3 := h.itFalls (m := m) ht (show 1 < 5 by omega)
  generalize q_writesB m W t w v (q_blockOf W (Int32.ofNat w)) (Int32.ofNat 0) = c0 at a1 ⊢
  generalize q_writesB m W t w v (q_blockOf W (Int32.ofNat w)) (Int32.ofNat 1) = c1 at a2 ⊢
  generalize q_itFalls m W t 1 = c2 at a3 ⊢
  exact cndi (fun q : Int32 × (Nat → Int32) × (Nat → Nat → Int32) => KG q.2.1 t) a1 (cndi (fun q : Int32 × (Nat → Int32) × (Nat → Nat → Int32) => KG q.2.1 t) a2 (cndi (fun q : Int32 × (Nat → Int32) × (Nat → Nat → Int32) => KG q.2.1 t) a2 a3))
theorem WG.writesX {W : Nat → Int32} (h : WG W) {w : Nat} (hw : w < 32) (v : Int32) : WG (q_writesX W w v).2 := by
  have h1 : WG (q_clearsX W (q_clash W (-1) (q_blockOf W (Int32.ofNat w)) (Int32.ofNat 1))).2 := (clearsW_ok h.N4 _ _ _ (by omega) h).1
  unfold q_writesX
  generalize q_clearsX W (q_clash W (-1) (q_blockOf W (Int32.ofNat w)) (Int32.ofNat 1)) = c at h1 ⊢
  exact cndi (fun q : Int32 × (Nat → Int32) => WG q.2) (h1.put _ (fre_lo (by omega) (by omega))) h1
def B01 (x : Int32) : Prop := x = 0 ∨ x = 1
theorem b01_0 : B01 (Int32.ofNat 0) := Or.inl rfl
theorem b01_1 : B01 (Int32.ofNat 1) := Or.inr rfl
theorem writesB_01 {W : Nat → Int32} {m : Nat → Nat → Int32} {t w : Nat} {v b g : Int32} : B01 (q_writesB m W t w v b g).1 := by
  unfold q_writesB
  generalize q_clears m W t (q_clash W (Int32.ofNat t) b (Int32.ofNat 1)) = c
  exact cndi (fun q : Int32 × (Nat → Int32) × (Nat → Nat → Int32) => B01 q.1) (cndi (fun q : Int32 × (Nat → Int32) × (Nat → Nat → Int32) => B01 q.1) b01_1 b01_1) b01_0
theorem writes_01 {W : Nat → Int32} {m : Nat → Nat → Int32} {t w : Nat} {v : Int32} : B01 (q_writes m W t w v).1 := by
  unfold q_writes
  exact cndi (fun q : Int32 × (Nat → Int32) × (Nat → Nat → Int32) => B01 q.1) writesB_01 (cndi (fun q : Int32 × (Nat → Int32) × (Nat → Nat → Int32) => B01 q.1) writesB_01 (cndi (fun q : Int32 × (Nat → Int32) × (Nat → Nat → Int32) => B01 q.1) writesB_01 b01_0))
theorem WG.lkw {W : Nat → Int32} (h : WG W) {l : Nat} (hl : l < 4) : ok W (16 + l) 0 31 := h.1.2.2.2.2.2.2 l hl
theorem KG.isTaken {W : Nat → Int32} {t l : Nat} (h : KG W t) (ht : t < 4) (hl : l < 4) : KG (q_isTaken W t l) t := by
  unfold q_isTaken
  refine cndi (fun q : Nat → Int32 => KG q t) ?_ ?_
  · exact KG.logs ((h.put ht _ (fre_at ht (by omega) (by unfold cT; omega))).put ht _ (fre_lo (by omega) (by omega))) _ _ _
  · exact KG.logs (((h.put ht _ (fre_at ht (by omega) (by unfold cT; omega))).put ht _ (fre_lo (by omega) (by omega))).put ht _ (fre_lo (by omega) (by omega))) _ _ _
/-- a guess begins: the four cells that go together -/
theorem KG.begins {W V : Nat → Int32} {t l : Nat} (h : KG W t) (ht : t < 4) (hl : l < 4) (hq : nv W (376 + 103 * t + 10) < 4) (e : ∀ k, k ≠ 376 + 103 * t + 2 → k ≠ 376 + 103 * t + 10 → k ≠ 376 + 103 * t + 18 → k ≠ 376 + 103 * t + (11 + nv W (376 + 103 * t + 10)) → V k = W k) (h2 : V (376 + 103 * t + 2) = Int32.ofNat 1) (h10 : V (376 + 103 * t + 10) = Int32.ofNat (nv W (376 + 103 * t + 10) + 1)) (h18 : V (376 + 103 * t + 18) = W (376 + 103 * t + 0) ∨ V (376 + 103 * t + 18) = W (376 + 103 * t + 18)) (h11 : V (376 + 103 * t + (11 + nv W (376 + 103 * t + 10))) = Int32.ofNat l) : KG V t := by
  obtain ⟨hw, hA⟩ := h
  refine ⟨⟨hw.1.of (fun j hj hc => e _ (by omega) (by omega) (by omega) (by omega)) (WC_of (e _ (by omega) (by omega) (by omega) (by omega)) hw.C), fun u hu => ?_⟩, hA.of (e _ (by omega) (by omega) (by omega) (by omega)) (e _ (by omega) (by omega) (by omega) (by omega))⟩
  by_cases hut : u = t
  · subst hut
    obtain ⟨a1, a2, a3, a4, a5, a6, a7, a8⟩ := hw.2 u hu
    have e22 : V (376 + 103 * u + 22) = W (376 + 103 * u + 22) := e _ (by omega) (by omega) (by omega) (by omega)
    refine ⟨ok.is h2 (by omega) (by omega) (by omega), ok.is h10 (by omega) (by omega) (by omega), fun k hk => ?_, a4.of e22, ?_, ?_, ?_, fun p hp => (a8 p hp).of (e _ (by omega) (by omega) (by omega) (by omega)) (e _ (by omega) (by omega) (by omega) (by omega))⟩
    · by_cases hk2 : k = nv W (376 + 103 * u + 10)
      · subst hk2
        exact ok.is h11 (by omega) (by omega) (by omega)
      · exact (a3 k hk).of (e _ (by omega) (by omega) (by omega) (by omega))
    · rw [nv_of e22]
      exact a5.of (e _ (by omega) (by omega) (by omega) (by omega))
    · rw [nv_of e22]
      rcases h18 with h18 | h18
      · have hA' : nv W (376 + 103 * u + 0) < nv W (376 + 103 * u + 22) := hA
        refine ok.is (n := nv W (376 + 103 * u + 0)) (by rw [h18]; exact a5.1) (by omega) (by omega) ?_
        have := a4.2.2
        omega
      · exact a6.of h18
    · intro h0
      rw [h2] at h0
      exact absurd h0 (by decide)
  · exact (hw.2 u hu).same (fun c hc h1 => e _ (by omega) (by omega) (by omega) (by omega))
theorem KG.bg {W : Nat → Int32} {t l : Nat} {x19 x20 x15 : Int32} (h : KG W t) (ht : t < 4) (hl : l < 4) (hq : nv W (376 + 103 * t + 10) < 4) : KG (q_leavesOut (upd (upd (upd (upd (upd W (376 + 103 * t + 2) (Int32.ofNat 1)) (376 + 103 * t + 18) (W (376 + 103 * t + 0))) (376 + 103 * t + 19) x19) (376 + 103 * t + 20) x20) (376 + 103 * t + 15) x15) t l) t := by
  have h1 : KG (upd (upd (upd W (376 + 103 * t + 19) x19) (376 + 103 * t + 20) x20) (376 + 103 * t + 15) x15) t :=
    ((h.put ht _ (fre_at ht (by omega) (by unfold cT; omega))).put ht _ (fre_at ht (by omega) (by unfold cT; omega))).put ht _ (fre_at ht (by omega) (by unfold cT; omega))
  have hQ := (h.1.2 t ht).2.1.1
  have n5 : nv (upd (upd (upd (upd (upd W (376 + 103 * t + 2) (Int32.ofNat 1)) (376 + 103 * t + 18) (W (376 + 103 * t + 0))) (376 + 103 * t + 19) x19) (376 + 103 * t + 20) x20) (376 + 103 * t + 15) x15) (376 + 103 * t + 10) = nv W (376 + 103 * t + 10) := by
    apply nv_of
    simp (disch := omega) only [upd_ne]
  have n3 : nv (upd (upd (upd W (376 + 103 * t + 19) x19) (376 + 103 * t + 20) x20) (376 + 103 * t + 15) x15) (376 + 103 * t + 10) = nv W (376 + 103 * t + 10) := by
    apply nv_of
    simp (disch := omega) only [upd_ne]
  refine h1.begins (l := l) ht hl (by rw [n3]; exact hq) ?_ ?_ ?_ ?_ ?_
  · rw [n3]
    intro k a b c d
    unfold q_leavesOut
    rw [n5, upd_ne _ _ b, upd_ne _ _ d]
    by_cases c15 : k = 376 + 103 * t + 15
    · rw [c15, upd_at, upd_at]
    · rw [upd_ne _ _ c15, upd_ne _ _ c15]
      by_cases c20 : k = 376 + 103 * t + 20
      · rw [c20, upd_at, upd_at]
      · rw [upd_ne _ _ c20, upd_ne _ _ c20]
        by_cases c19 : k = 376 + 103 * t + 19
        · rw [c19, upd_at, upd_at]
        · rw [upd_ne _ _ c19, upd_ne _ _ c19, upd_ne _ _ c, upd_ne _ _ a]
  · unfold q_leavesOut
    rw [n5]
    simp (disch := omega) only [upd_ne]
    rw [upd_at]
  · unfold q_leavesOut
    rw [n5, n3, upd_at]
    simp (disch := omega) only [upd_ne]
    rw [Int32.ofNat_add, ← hQ]
  · left
    unfold q_leavesOut
    rw [n5]
    simp (disch := omega) only [upd_ne]
    rw [upd_at]
  · rw [n3]
    unfold q_leavesOut
    rw [n5, upd_ne _ _ (by omega), upd_at]
theorem KG.beginsGuess {W : Nat → Int32} {t l : Nat} (h : KG W t) (ht : t < 4) (hl : l < 4) (hq : nv W (376 + 103 * t + 10) < 4) : KG (q_beginsGuess W t l) t := by
  unfold q_beginsGuess
  apply KG.logs
  have e0 : q_of (upd W (376 + 103 * t + 2) (Int32.ofNat 1)) t 0 = W (376 + 103 * t + 0) := upd_ne _ _ (by omega)
  rw [e0]
  exact KG.bg h ht hl hq
/-- one more is left out -/
theorem KG.leavesOut {W : Nat → Int32} {t l : Nat} (h : KG W t) (ht : t < 4) (hl : l < 4) (hq : nv W (376 + 103 * t + 10) < 4) (hg : W (376 + 103 * t + 2) = Int32.ofNat 1) : KG (q_leavesOut W t l) t := by
  have hQ := (h.1.2 t ht).2.1.1
  refine h.begins (l := l) ht hl hq ?_ ?_ ?_ ?_ ?_
  · intro k a b c d
    unfold q_leavesOut
    rw [upd_ne _ _ b, upd_ne _ _ d]
  · unfold q_leavesOut
    rw [upd_ne _ _ (by omega), upd_ne _ _ (by omega)]
    exact hg
  · unfold q_leavesOut
    rw [upd_at, upd_ne _ _ (by omega), Int32.ofNat_add, ← hQ]
  · right
    unfold q_leavesOut
    rw [upd_ne _ _ (by omega), upd_ne _ _ (by omega)]
  · unfold q_leavesOut
    rw [upd_ne _ _ (by omega), upd_at]
theorem zlt_t {a b : Nat} (ha : a < 2147483648) (hb : b < 2147483648) (h : zc2 .lt (Int32.ofNat a) (Int32.ofNat b) = true) : a < b := by
  have h1 : Int32.ofNat a < Int32.ofNat b := of_decide_eq_true h
  rw [Int32.lt_iff_toInt_lt, zoN ha, zoN hb] at h1
  omega
/-- not guessing: nothing is left out -/
theorem WG.idle {W : Nat → Int32} (h : WG W) {t : Nat} (ht : t < 4) (hc : zc2 .ne (q_of W t 2) (Int32.ofNat 1) = true) : nv W (376 + 103 * t + 10) < 4 := by
  obtain ⟨a1, a2, a3, a4, a5, a6, a7, a8⟩ := h.2 t ht
  have h1 : ¬ W (376 + 103 * t + 2) = Int32.ofNat 1 := of_decide_eq_true hc
  have h2 : nv W (376 + 103 * t + 2) = 0 := by
    have := a1.2.2
    by_cases h3 : nv W (376 + 103 * t + 2) = 1
    · exact absurd (by rw [a1.1, h3]) h1
    · omega
  have h4 := a7 (by rw [a1.1, h2])
  unfold nv
  rw [h4]
  decide
theorem zeq1 {x : Int32} {b : Nat} (hc : zc2 .ne x (Int32.ofNat b) = false) : x = Int32.ofNat b := Classical.byContradiction (fun q => of_decide_eq_false hc q)
