/-! a step's parts keep the order -/
abbrev QT : Type := Int32 × (Nat → Int32) × (Nat → Nat → Int32)
def KB (t : Nat) (q : QT) : Prop := KG q.2.1 t ∧ B01 q.1
theorem reads_01 {W : Nat → Int32} {m : Nat → Nat → Int32} {t : Nat} {w : Int32} : B01 (q_reads m W t w).1 := by
  unfold q_reads
  generalize q_clears m W t (q_clash W (Int32.ofNat t) (q_blockOf W w) (Int32.ofNat 0)) = c
  exact cndi (fun q : QT => B01 q.1) (cndi (fun q : QT => B01 q.1) b01_1 b01_1) b01_0
theorem takesD_ok {W : Nat → Int32} {m : Nat → Nat → Int32} {t l w : Nat} {f : Int32} (h : KG W t) (ht : t < 4) : KB t (q_takesD m W t l w f) := by
  unfold q_takesD
  have a4 := h.itFalls (m := m) ht (show 4 < 5 by omega)
  have a2 := h.itFalls (m := m) ht (show 2 < 5 by omega)
  generalize q_itFalls m W t 4 = c4 at a4 ⊢
  generalize q_itFalls m W t 2 = c2 at a2 ⊢
  exact cndi (KB t) ⟨a4, b01_0⟩ ⟨a2, b01_0⟩
theorem takesC_ok {W : Nat → Int32} {m : Nat → Nat → Int32} {t l w : Nat} {f : Int32} (h : KG W t) (ht : t < 4) (hl : l < 4) (hw : w < 32) : KB t (q_takesC m W t l w f) := by
  unfold q_takesC
  have aD := takesD_ok (m := m) (l := l) (w := w) (f := f) h ht
  have aw := h.writes (m := m) ht hw (Int32.ofNat 1)
  have a01 := writes_01 (m := m) (W := W) (t := t) (w := w) (v := Int32.ofNat 1)
  generalize q_takesD m W t l w f = cD at aD ⊢
  generalize q_writes m W t w (Int32.ofNat 1) = cw at aw a01 ⊢
  have ai := aw.isTaken (l := l) ht hl
  generalize q_isTaken cw.2.1 t l = ci at ai ⊢
  refine cndh (KB t) (fun h1 => ?_) (fun h1 => ?_)
  · have ab := h.beginsGuess (l := l) ht hl (h.1.idle ht h1)
    generalize q_beginsGuess W t l = cb at ab ⊢
    exact cndi (KB t) (cndi (KB t) ⟨ai, b01_1⟩ (cndi (KB t) ⟨ai, b01_1⟩ ⟨ab, b01_1⟩)) ⟨h, b01_0⟩
  · refine cndi (KB t) aD (cndi (KB t) (cndh (KB t) (fun h2 => ?_) (fun _ => ⟨aw, a01⟩)) aD)
    exact ⟨h.leavesOut ht hl (zlt4 h.1 ht h2) (zeq1 h1), b01_1⟩
theorem takesB_ok {W : Nat → Int32} {m : Nat → Nat → Int32} {t l w : Nat} (h : KG W t) (ht : t < 4) (hl : l < 4) (hw : w < 32) : KB t (q_takesB m W t l w) := by
  unfold q_takesB
  exact cndi (KB t) (takesC_ok h ht hl hw) (takesC_ok h ht hl hw)
theorem takes_ok {W : Nat → Int32} {m : Nat → Nat → Int32} {t l : Nat} (h : KG W t) (ht : t < 4) (hl : l < 4) : KB t (q_takes m W t l) := by
  unfold q_takes
  have ar := h.reads (m := m) ht (Int32.ofNat (nv W (16 + l)))
  have h32 := h.1.lk32 hl
  generalize q_reads m W t (Int32.ofNat (nv W (16 + l))) = cr at ar ⊢
  exact cndi (KB t) (takesB_ok ar ht hl h32) ⟨ar, b01_0⟩
theorem KG.ends {W : Nat → Int32} {t : Nat} (h : KG W t) (ht : t < 4) : KG (q_ends W t) t := by
  refine ⟨h.1.ends ht, h.2.of ?_ ?_⟩
  · simp (disch := omega) only [q_ends, upd_ne]
  · simp (disch := omega) only [q_ends, upd_ne]
theorem isKept_ok {t l : Nat} (ht : t < 4) (hl : l < 4) : ∀ (n k : Nat) (W : Nat → Int32), k + n = 32 → KG W t → KG (l_isKept t l n k W) t := by
  intro n
  induction n with
  | zero =>
    intro k W hk h
    rw [l_isKept]
    apply KG.logs
    apply KG.ends _ ht
    exact (((h.put ht _ (fre_lo (by omega) (by omega))).put ht _ (fre_lo (by omega) (by omega))).put ht _ (fre_at ht (by omega) (by unfold cT; omega))).put ht _ (fre_at ht (by omega) (by unfold cT; omega))
  | succ n ih =>
    intro k W hk h
    rw [l_isKept]
    exact cndi (fun q : Nat → Int32 => KG q t) (ih _ _ (by omega) h) (ih _ _ (by omega) (h.put ht _ (fre_lo (by omega) (by omega))))
theorem KG.isKept {W : Nat → Int32} {t l : Nat} (h : KG W t) (ht : t < 4) (hl : l < 4) : KG (q_isKept W t l) t := isKept_ok ht hl _ _ _ rfl h
theorem KG.qty {W : Nat → Int32} {t n : Nat} (h : KG W t) (ht : t < 4) (hn : n ≤ 4) (hg : ¬ W (376 + 103 * t + 2) = Int32.ofNat 0) : KG (upd W (376 + 103 * t + 10) (Int32.ofNat n)) t := by
  obtain ⟨hw, hA⟩ := h
  refine ⟨⟨hw.1.of (fun j hj hc => upd_ne _ _ (by omega)) (WC_of (upd_ne _ _ (by omega)) hw.C), fun u hu => ?_⟩, hA.of (upd_ne _ _ (by omega)) (upd_ne _ _ (by omega))⟩
  by_cases hut : u = t
  · subst hut
    refine (hw.2 u hu).of (fun c hc h1 => upd_ne _ _ (by unfold cT at h1; omega)) ((hw.2 u hu).1.of (upd_ne _ _ (by omega))) (ok.is (upd_at _ _ _) (by omega) (by omega) (by omega)) ((hw.2 u hu).2.2.2.2.1.of (upd_ne _ _ (by omega))) ?_
    rw [upd_ne _ _ (by omega)]
    exact fun e => absurd e hg
  · exact (hw.2 u hu).same (fun c hc h1 => upd_ne _ _ (by omega))
theorem KG.outs {W : Nat → Int32} {t n : Nat} (h : KG W t) (hn : n ≤ 20) : KG (upd W 14 (Int32.ofNat n)) t := by
  obtain ⟨hw, hA⟩ := h
  obtain ⟨⟨a0, a2, a7, a9, a14, a15, aK⟩, hT⟩ := hw
  refine ⟨⟨⟨a0.of (upd_ne _ _ (by omega)), a2.of (upd_ne _ _ (by omega)), a7.of (upd_ne _ _ (by omega)), a9.of (upd_ne _ _ (by omega)), ok.is (upd_at _ _ _) (by omega) hn (by omega), a15.of (upd_ne _ _ (by omega)), fun l hl => (aK l hl).of (upd_ne _ _ (by omega))⟩, fun u hu => (hT u hu).same (fun c hc h1 => upd_ne _ _ (by omega))⟩, hA.of (upd_ne _ _ (by omega)) (upd_ne _ _ (by omega))⟩
theorem zsubN {n : Nat} (h : 1 ≤ n) : Int32.ofNat n - Int32.ofNat 1 = Int32.ofNat (n - 1) := by
  have e : n = n - 1 + 1 := by omega
  rw [e, Int32.ofNat_add, Nat.add_sub_cancel, Int32.add_sub_cancel]
theorem drops_ok {W : Nat → Int32} {m : Nat → Nat → Int32} {t l : Nat} (h : KG W t) (ht : t < 4) (hl : l < 4) : KB t (q_drops m W t l) := by
  unfold q_drops
  have h32 := h.1.lk32 hl
  have a2 := h.itFalls (m := m) ht (show 2 < 5 by omega)
  have aw := h.writes (m := m) ht h32 (Int32.ofNat 0)
  have ak := h.isKept (l := l) ht hl
  obtain ⟨b1, b2, b3, b4, b5, b6, b7, b8⟩ := h.1.2 t ht
  generalize q_itFalls m W t 2 = c2 at a2 ⊢
  generalize q_writes m W t (nv W (16 + l)) (Int32.ofNat 0) = cw at aw ⊢
  generalize q_isKept W t l = ck at ak ⊢
  generalize q_placeLeft W t (Int32.ofNat l) = p
  refine cndh (KB t) (fun h1 => cndh (KB t) (fun h2 => cndh (KB t) (fun h3 => ?_) (fun _ => ⟨ak, b01_1⟩)) (fun _ => ⟨a2, b01_0⟩)) (fun _ => ?_)
  · have e2 : p = W (376 + 103 * t + 10) - Int32.ofNat 1 := of_decide_eq_true h2
    have e3 : ¬ p = 0 := of_decide_eq_true h3
    have e1 : ¬ p = -1 := of_decide_eq_true h1
    have hn : 2 ≤ nv W (376 + 103 * t + 10) := by
      apply Nat.le_of_not_lt
      intro hlt
      rw [b2.1] at e2
      match hv : nv W (376 + 103 * t + 10), hlt with
      | 0, _ => rw [hv] at e2; exact e1 (e2.trans (by decide))
      | 1, _ => rw [hv] at e2; exact e3 (e2.trans (by decide))
    refine ⟨?_, b01_1⟩
    have e4 : W (376 + 103 * t + 10) - Int32.ofNat 1 = Int32.ofNat (nv W (376 + 103 * t + 10) - 1) := by
      rw [← zsubN (by omega), ← b2.1]
    show KG (upd W (376 + 103 * t + 10) (W (376 + 103 * t + 10) - Int32.ofNat 1)) t
    rw [e4]
    have b2' := b2.2.2
    refine h.qty ht (by omega) (fun e => ?_)
    have e5 := b7 e
    unfold nv at hn
    rw [e5] at hn
    exact absurd hn (by decide)
  · exact cndi (KB t) (cndi (KB t) ⟨aw.logs _ _ _, b01_1⟩ ⟨aw, b01_0⟩) (cndi (KB t) ⟨aw, b01_1⟩ ⟨aw, b01_0⟩)
theorem putsOut_ok {W : Nat → Int32} {m : Nat → Nat → Int32} {t : Nat} (h : KG W t) (ht : t < 4) : KB t (q_putsOut m W t) := by
  unfold q_putsOut
  have a3 := h.itFalls (m := m) ht (show 3 < 5 by omega)
  have hO := h.1.1.2.2.2.2.1
  generalize q_itFalls m W t 3 = c3 at a3 ⊢
  refine cndi (KB t) (cndh (KB t) (fun _ => ⟨h.logs _ _ _, b01_1⟩) (fun h2 => ⟨KG.logs ?_ _ _ _, b01_1⟩)) ⟨a3, b01_0⟩
  have hlt : nv W 14 < 20 := by
    apply Nat.lt_of_not_le
    intro hge
    have := hO.2.2
    rw [zcge (by omega) (by omega) hge] at h2
    cases h2
  have h5 : KG (upd (upd W (96 + 2 * nv W 14) (Int32.ofNat t)) (96 + 2 * nv W 14 + 1) (q_of (upd W (96 + 2 * nv W 14) (Int32.ofNat t)) t 1)) t :=
    (h.put ht _ (fre_lo (by omega) (by omega))).put ht _ (fre_lo (by omega) (by omega))
  have e14 : upd (upd W (96 + 2 * nv W 14) (Int32.ofNat t)) (96 + 2 * nv W 14 + 1) (q_of (upd W (96 + 2 * nv W 14) (Int32.ofNat t)) t 1) 14 + Int32.ofNat 1 = Int32.ofNat (nv W 14 + 1) := by
    rw [upd_ne _ _ (by omega), upd_ne _ _ (by omega), Int32.ofNat_add, ← hO.1]
  rw [e14]
  exact h5.outs (by omega)
theorem works_ok {W : Nat → Int32} {t : Nat} {n : Int32} (h : KG W t) (ht : t < 4) : KG (q_works W t n).2 t ∧ B01 (q_works W t n).1 := by
  unfold q_works
  refine cndi (fun q : Int32 × (Nat → Int32) => KG q.2 t ∧ B01 q.1) ⟨?_, b01_1⟩ ⟨?_, b01_0⟩
  · exact (h.put ht _ (fre_at ht (by omega) (by unfold cT; omega))).put ht _ (fre_at ht (by omega) (by unfold cT; omega))
  · exact h.put ht _ (fre_at ht (by omega) (by unfold cT; omega))
