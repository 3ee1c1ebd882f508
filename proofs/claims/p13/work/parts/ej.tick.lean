/-! a deed leaves the terms, the counts and the tick alone; a step counts one tick -/
noncomputable def KK (k : Nat) (W : Nat → Int32) (q : QT) : Prop := q.2.1 k = W k
theorem clears_k {mm : Nat → Nat → Int32} {W : Nat → Int32} {t k : Nat} {s : Int32} (hk : k < 15) (hw : WG W) (ht : t < 4) : (q_clears mm W t s).2.1 k = W k := by
  have L : ∀ (n j : Nat) (V : Nat → Int32), j + n = nv W 9 → WG V → (l_clears (Int32.ofNat t) s (nv W 9) n j V).2 k = V k := by
    have h4 := hw.N4
    intro n
    induction n with
    | zero => intro j V _ _; rfl
    | succ n ih =>
      intro j V hj hV
      rw [l_clears]
      cases zc1 .eq (q_holds s j) with
      | true => exact ih _ _ (by omega) hV
      | false => exact (ih _ _ (by omega) (hV.falls (by omega) (by omega))).trans (falls_6 hV (by omega) (by omega) hk)
  unfold q_clears
  cases zc1 .eq (q_yields W t s) with
  | true => exact L _ _ _ (by omega) hw
  | false => exact falls_6 hw ht (by omega) hk
theorem reads_k {mm : Nat → Nat → Int32} {W : Nat → Int32} {t k : Nat} {w : Int32} (hk : k < 15) (hw : WG W) (ht : t < 4) : KK k W (q_reads mm W t w) := by
  have e := clears_k (mm := mm) (s := q_clash W (Int32.ofNat t) (q_blockOf W w) (Int32.ofNat 0)) hk hw ht
  unfold q_reads
  generalize q_clears mm W t (q_clash W (Int32.ofNat t) (q_blockOf W w) (Int32.ofNat 0)) = c at e ⊢
  refine cndi (KK k W) (cndi (KK k W) e ?_) e
  unfold KK
  dsimp only
  rw [upd_ne _ _ (by omega)]
  exact e
theorem writesB_k {mm : Nat → Nat → Int32} {W : Nat → Int32} {t w k : Nat} {v x g : Int32} (hk : k < 15) (hw : WG W) (ht : t < 4) : KK k W (q_writesB mm W t w v x g) := by
  have e := clears_k (mm := mm) (s := q_clash W (Int32.ofNat t) x (Int32.ofNat 1)) hk hw ht
  unfold q_writesB
  generalize q_clears mm W t (q_clash W (Int32.ofNat t) x (Int32.ofNat 1)) = c at e ⊢
  refine cndi (KK k W) (cndi (KK k W) ?_ ?_) e
  · unfold KK
    dsimp only
    rw [upd_ne _ _ (by omega)]
    exact e
  · unfold KK
    dsimp only
    rw [upd_ne _ _ (by omega), upd_ne _ _ (by omega), upd_ne _ _ (by omega)]
    exact e
theorem writes_k {mm : Nat → Nat → Int32} {W : Nat → Int32} {t w k : Nat} {v : Int32} (hk : k < 15) (hw : WG W) (ht : t < 4) : KK k W (q_writes mm W t w v) := by
  unfold q_writes
  exact cndi (KK k W) (writesB_k hk hw ht) (cndi (KK k W) (writesB_k hk hw ht) (cndi (KK k W) (writesB_k hk hw ht) (falls_6 hw ht (by omega) hk)))
theorem isTaken_k {V : Nat → Int32} {t l k : Nat} (hk : k < 15) (hw : WG V) : q_isTaken V t l k = V k := by
  have C1 : WC (upd (upd V (376 + 103 * t + 3) (Int32.ofNat 0)) (24 + l) (upd V (376 + 103 * t + 3) (Int32.ofNat 0) (24 + l) + Int32.ofNat 1)) := WC_of (by simp (disch := omega) only [upd_ne]) hw.C
  unfold q_isTaken
  refine cndi (fun q : Nat → Int32 => q k = V k) ?_ ?_
  · rw [logs_fr C1 (by omega) (by omega)]
    simp (disch := omega) only [upd_ne]
  · rw [logs_fr (WC_of (upd_ne _ _ (by omega)) C1) (by omega) (by omega)]
    simp (disch := omega) only [upd_ne]
theorem begins_k {W : Nat → Int32} {t l k : Nat} (hk : k < 15) (hw : WG W) (hl : nv W (376 + 103 * t + 10) < 4) : q_beginsGuess W t l k = W k := by
  have e10 : ∀ a c d f g : Int32, nv (upd (upd (upd (upd (upd W (376 + 103 * t + 2) a) (376 + 103 * t + 18) c) (376 + 103 * t + 19) d) (376 + 103 * t + 20) f) (376 + 103 * t + 15) g) (376 + 103 * t + 10) = nv W (376 + 103 * t + 10) := fun a c d f g => nv_of (by simp (disch := omega) only [upd_ne])
  unfold q_beginsGuess q_leavesOut
  rw [e10, logs_fr (WC_of (by simp (disch := omega) only [upd_ne]) hw.C) (by omega) (by omega)]
  simp (disch := omega) only [upd_ne]
theorem isKept_k {t l k : Nat} (hk : k < 15) : ∀ (n j : Nat) (W : Nat → Int32), j + n = 32 → WC W → l_isKept t l n j W k = W k := by
  intro n
  induction n with
  | zero =>
    intro j W _ C
    rw [l_isKept, logs_fr (WC_of (by simp (disch := omega) only [q_ends, upd_ne]) C) (by omega) (by omega)]
    simp (disch := omega) only [q_ends, upd_ne]
  | succ n ih =>
    intro j W hj C
    rw [l_isKept]
    cases zc1 .eq (q_holds (q_of W t 17) j) with
    | true => exact ih _ _ (by omega) C
    | false => exact (ih (j + 1) (upd W (32 + j) (q_of W t (23 + j))) (by omega) (WC_of (upd_ne _ _ (by omega)) C)).trans (upd_ne _ _ (by omega))
theorem takes_k {W : Nat → Int32} {mm : Nat → Nat → Int32} {t l k : Nat} (hk : k < 15) (h : KG W t) (ht : t < 4) (hl : l < 4) : KK k W (q_takes mm W t l) := by
  have r := reads_k (mm := mm) (k := k) (w := Int32.ofNat (nv W (16 + l))) hk h.1 ht
  have kg := h.reads (m := mm) ht (Int32.ofNat (nv W (16 + l)))
  unfold q_takes
  generalize q_reads mm W t (Int32.ofNat (nv W (16 + l))) = c at r kg ⊢
  refine cndi (KK k W) ?_ r
  have r' : c.2.1 k = W k := r
  have F : ∀ f : Int32, KK k W (q_takesC c.2.2 c.2.1 t l (nv W (16 + l)) f) := by
    intro f
    have aD : KK k W (q_takesD c.2.2 c.2.1 t l (nv W (16 + l)) f) := by
      unfold q_takesD
      exact cndi (KK k W) ((falls_6 kg.1 ht (by omega) hk).trans r') ((falls_6 kg.1 ht (by omega) hk).trans r')
    have w : (q_writes c.2.2 c.2.1 t (nv W (16 + l)) (Int32.ofNat 1)).2.1 k = W k := (writes_k (mm := c.2.2) (w := nv W (16 + l)) (v := Int32.ofNat 1) hk kg.1 ht).trans r'
    have kw := (kg.writes (m := c.2.2) (w := nv W (16 + l)) ht (h.1.lk32 hl) (Int32.ofNat 1)).1
    unfold q_takesC
    refine cndh (KK k W) (fun h1 => ?_) (fun h1 => ?_)
    · exact cndi (KK k W) (cndi (KK k W) ((isTaken_k hk kw).trans w) (cndi (KK k W) ((isTaken_k hk kw).trans w) ((begins_k hk kg.1 (kg.1.idle ht h1)).trans r'))) r'
    · refine cndi (KK k W) aD (cndi (KK k W) (cndh (KK k W) (fun h2 => ?_) (fun _ => w)) aD)
      have q4 := zlt4 kg.1 ht h2
      unfold KK q_leavesOut
      dsimp only
      rw [upd_ne _ _ (by omega), upd_ne _ _ (by omega)]
      exact r'
  unfold q_takesB
  exact cndi (KK k W) (F _) (F _)
theorem drops_k {W : Nat → Int32} {mm : Nat → Nat → Int32} {t l k : Nat} (hk : k < 15) (h : KG W t) (ht : t < 4) (hl : l < 4) : KK k W (q_drops mm W t l) := by
  have w := writes_k (mm := mm) (k := k) (w := nv W (16 + l)) (v := Int32.ofNat 0) hk h.1 ht
  have kw := (h.writes (m := mm) (w := nv W (16 + l)) ht (h.1.lk32 hl) (Int32.ofNat 0)).1
  unfold q_drops
  refine cndi (KK k W) (cndi (KK k W) (cndi (KK k W) ?_ (isKept_k hk _ _ _ rfl h.1.C)) (falls_6 h.1 ht (by omega) hk)) (cndi (KK k W) (cndi (KK k W) ((logs_fr kw.C (by omega) (by omega)).trans w) w) (cndi (KK k W) w w))
  unfold KK
  dsimp only
  rw [upd_ne _ _ (by omega)]
theorem does_k {W : Nat → Int32} {mm : Nat → Nat → Int32} {t K n k : Nat} (hk : k < 14) (h : KG W t) (ht : t < 4) (hn1 : K ≤ 1 → n ≤ 3) (hn3 : K ≤ 3 → n ≤ 31) : KK k W (q_does mm W t K n) := by
  match K, hn1, hn3 with
  | 0, hn1, _ => exact takes_k (by omega) h ht (Nat.lt_succ_of_le (hn1 (by omega)))
  | 1, hn1, _ => exact drops_k (by omega) h ht (Nat.lt_succ_of_le (hn1 (by omega)))
  | 2, _, hn3 =>
    have r := reads_k (mm := mm) (k := k) (w := Int32.ofNat n) (by omega) h.1 ht
    show KK k W (q_does2 mm W t n)
    unfold q_does2
    generalize q_reads mm W t (Int32.ofNat n) = c at r ⊢
    refine cndi (KK k W) ?_ r
    unfold KK at r ⊢
    dsimp only
    rw [upd_ne _ _ (by omega)]
    exact r
  | 3, _, _ => exact writes_k (mm := mm) (by omega) h.1 ht
  | 4, _, _ =>
    show upd W (376 + 103 * t + 1) (Int32.ofNat n) k = W k
    exact upd_ne _ _ (by omega)
  | 5, _, _ =>
    show upd W (376 + 103 * t + 1) _ k = W k
    exact upd_ne _ _ (by omega)
  | 6, _, _ =>
    show (q_works W t (Int32.ofNat n)).2 k = W k
    unfold q_works
    refine cndi (fun q : Int32 × (Nat → Int32) => q.2 k = W k) ?_ ?_
    · dsimp only
      rw [upd_ne _ _ (by omega), upd_ne _ _ (by omega)]
    · dsimp only
      rw [upd_ne _ _ (by omega)]
  | j + 7, _, _ =>
    have e : q_does mm W t (j + 7) n = q_putsOut mm W t := by
      cases j <;> rfl
    rw [e]
    have o14 := h.1.1.2.2.2.2.1.2.2
    unfold q_putsOut
    refine cndi (KK k W) (cndi (KK k W) (logs_fr h.1.C (by omega) (by omega)) ?_) (falls_6 h.1 ht (by omega) (by omega))
    unfold KK
    dsimp only
    rw [logs_fr (WC_of (by simp (disch := omega) only [upd_ne]) h.1.C) (by omega) (by omega)]
    simp (disch := omega) only [upd_ne]
theorem stepsE_11 {W : Nat → Int32} {mm : Nat → Nat → Int32} {t : Nat} {on : Int32} : (q_stepsE mm W t on).2 11 = W 11 + Int32.ofNat 1 := by
  unfold q_stepsE
  have e : upd (upd W 12 (Int32.ofNat t)) 11 (upd W 12 (Int32.ofNat t) 11 + Int32.ofNat 1) 11 = W 11 + Int32.ofNat 1 := by
    rw [upd_at, upd_ne _ _ (by omega)]
  exact cndi (fun q : Int32 × (Nat → Int32) => q.2 11 = W 11 + Int32.ofNat 1) (cndi (fun q : Int32 × (Nat → Int32) => q.2 11 = W 11 + Int32.ofNat 1) e e) e
theorem steps_11 {W : Nat → Int32} {mm : Nat → Nat → Int32} {t : Nat} (h : KG W t) (ht : t < 4) : (q_steps mm W t).2.1 11 = W 11 + Int32.ofNat 1 := by
  obtain ⟨d24, D1, D2, D3, D4⟩ := h.deed ht
  have d := does_k (mm := zm2 mm 137 5 (Int32.ofNat 0)) (k := 11) (by omega) h ht D3 D4
  have kg := (does_ok (m := zm2 mm 137 5 (Int32.ofNat 0)) (n := nv W (376 + 103 * t + (55 + 2 * nv W (376 + 103 * t + 0) + 1))) h ht (K := nv W (376 + 103 * t + (55 + 2 * nv W (376 + 103 * t + 0)))) (by have := D1.2.2; omega) D3 D4).1
  unfold q_steps
  generalize q_does (zm2 mm 137 5 (Int32.ofNat 0)) W t (nv W (376 + 103 * t + (55 + 2 * nv W (376 + 103 * t + 0)))) (nv W (376 + 103 * t + (55 + 2 * nv W (376 + 103 * t + 0) + 1))) = c at d kg ⊢
  have d' : c.2.1 11 = W 11 := d
  have w := kg.adv ht
  have e1 : upd c.2.1 (376 + 103 * t + 0) (c.2.1 (376 + 103 * t + 0) + Int32.ofNat 1) 11 = W 11 := (upd_ne _ _ (by omega)).trans d'
  refine cndi (fun q : QT => q.2.1 11 = W 11 + Int32.ofNat 1) (stepsE_11.trans (by rw [d'])) ?_
  generalize upd c.2.1 (376 + 103 * t + 0) (c.2.1 (376 + 103 * t + 0) + Int32.ofNat 1) = V at w e1 ⊢
  unfold q_stepsD
  refine cndi (fun q : QT => q.2.1 11 = W 11 + Int32.ofNat 1) (stepsE_11.trans (by rw [e1])) (cndi (fun q : QT => q.2.1 11 = W 11 + Int32.ofNat 1) (stepsE_11.trans ?_) ?_)
  · rw [logs_fr w.C (by omega) (by omega), e1]
  · dsimp only
    rw [stepsE_11]
    show q_falls V t 2 11 + Int32.ofNat 1 = W 11 + Int32.ofNat 1
    rw [falls_6 w ht (by omega) (by omega), e1]
/-- ticks go to 99999 at most -/
noncomputable def TK (W : Nat → Int32) : Prop := ok W 11 0 99999
theorem steps_TK {W : Nat → Int32} {mm : Nat → Nat → Int32} {t : Nat} (h : KG W t) (ht : t < 4) (hT : TK W) (hl : zc2 .ge (W 11) (Int32.ofNat 99999) = false) : TK (q_steps mm W t).2.1 := by
  have hn : nv W 11 < 99999 := by
    rw [zge_n, hT.1] at hl
    have h2 := hT.2.2
    cases hq : zc2 .lt (Int32.ofNat (nv W 11)) (Int32.ofNat 99999) with
    | true => exact zlt_t (by omega) (by omega) hq
    | false => rw [hq] at hl; exact absurd hl (by decide)
  refine ok.is (n := nv W 11 + 1) ?_ (by omega) (by omega) (by omega)
  rw [steps_11 h ht, ← i_add, ← hT.1]
