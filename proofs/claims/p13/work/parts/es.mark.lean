/-! the mark of what was thrown stays through steps -/
noncomputable def M0 (m m' : Nat → Nat → Int32) : Prop := m' 137 0 = m 137 0
theorem M0.rf (m : Nat → Nat → Int32) : M0 m m := rfl
theorem M0.tr {a b c : Nat → Nat → Int32} (h : M0 a b) (g : M0 b c) : M0 a c := Eq.trans g h
theorem M0.p5 (m : Nat → Nat → Int32) (x : Int32) : M0 m (zm2 m 137 5 x) := zx_nk _ _ (by decide)
theorem M0.z140 (m : Nat → Nat → Int32) (V : Nat → Int32) : M0 m (zrow m 140 V) := congrFun (if_neg (by decide)) 0
theorem itFalls_m0 {m : Nat → Nat → Int32} {W : Nat → Int32} {t y : Nat} : M0 m (q_itFalls m W t y).2 := M0.p5 m _
theorem clears_m0 {m : Nat → Nat → Int32} {W : Nat → Int32} {t : Nat} {s : Int32} : M0 m (q_clears m W t s).2.2 := by
  unfold q_clears
  exact cndi (fun q : QT => M0 m q.2.2) (M0.rf m) (M0.p5 m _)
theorem reads_m0 {m : Nat → Nat → Int32} {W : Nat → Int32} {t : Nat} {w : Int32} : M0 m (q_reads m W t w).2.2 := by
  unfold q_reads
  have h := clears_m0 (m := m) (W := W) (t := t) (s := q_clash W (Int32.ofNat t) (q_blockOf W w) (Int32.ofNat 0))
  generalize q_clears m W t (q_clash W (Int32.ofNat t) (q_blockOf W w) (Int32.ofNat 0)) = c at h ⊢
  exact cndi (fun q : QT => M0 m q.2.2) (cndi (fun q : QT => M0 m q.2.2) h h) h
theorem writesB_m0 {m : Nat → Nat → Int32} {W : Nat → Int32} {t w : Nat} {v b g : Int32} : M0 m (q_writesB m W t w v b g).2.2 := by
  unfold q_writesB
  have h := clears_m0 (m := m) (W := W) (t := t) (s := q_clash W (Int32.ofNat t) b (Int32.ofNat 1))
  generalize q_clears m W t (q_clash W (Int32.ofNat t) b (Int32.ofNat 1)) = c at h ⊢
  exact cndi (fun q : QT => M0 m q.2.2) (cndi (fun q : QT => M0 m q.2.2) h h) h
theorem writes_m0 {m : Nat → Nat → Int32} {W : Nat → Int32} {t w : Nat} {v : Int32} : M0 m (q_writes m W t w v).2.2 := by
  unfold q_writes
  exact cndi (fun q : QT => M0 m q.2.2) writesB_m0 (cndi (fun q : QT => M0 m q.2.2) writesB_m0 (cndi (fun q : QT => M0 m q.2.2) writesB_m0 itFalls_m0))
theorem takesD_m0 {m : Nat → Nat → Int32} {W : Nat → Int32} {t l w : Nat} {f : Int32} : M0 m (q_takesD m W t l w f).2.2 := by
  unfold q_takesD
  exact cndi (fun q : QT => M0 m q.2.2) itFalls_m0 itFalls_m0
theorem takesC_m0 {m : Nat → Nat → Int32} {W : Nat → Int32} {t l w : Nat} {f : Int32} : M0 m (q_takesC m W t l w f).2.2 := by
  unfold q_takesC
  have aD := takesD_m0 (m := m) (W := W) (t := t) (l := l) (w := w) (f := f)
  have aw := writes_m0 (m := m) (W := W) (t := t) (w := w) (v := Int32.ofNat 1)
  generalize q_takesD m W t l w f = cD at aD ⊢
  generalize q_writes m W t w (Int32.ofNat 1) = cw at aw ⊢
  exact cndi (fun q : QT => M0 m q.2.2) (cndi (fun q : QT => M0 m q.2.2) (cndi (fun q : QT => M0 m q.2.2) aw (cndi (fun q : QT => M0 m q.2.2) aw (M0.rf m))) (M0.rf m)) (cndi (fun q : QT => M0 m q.2.2) aD (cndi (fun q : QT => M0 m q.2.2) (cndi (fun q : QT => M0 m q.2.2) (M0.rf m) aw) aD))
theorem takesB_m0 {m : Nat → Nat → Int32} {W : Nat → Int32} {t l w : Nat} : M0 m (q_takesB m W t l w).2.2 := by
  unfold q_takesB
  exact cndi (fun q : QT => M0 m q.2.2) takesC_m0 takesC_m0
theorem takes_m0 {m : Nat → Nat → Int32} {W : Nat → Int32} {t l : Nat} : M0 m (q_takes m W t l).2.2 := by
  unfold q_takes
  have h := reads_m0 (m := m) (W := W) (t := t) (w := Int32.ofNat (nv W (16 + l)))
  generalize q_reads m W t (Int32.ofNat (nv W (16 + l))) = c at h ⊢
  exact cndi (fun q : QT => M0 m q.2.2) (h.tr takesB_m0) h
theorem drops_m0 {m : Nat → Nat → Int32} {W : Nat → Int32} {t l : Nat} : M0 m (q_drops m W t l).2.2 := by
  unfold q_drops
  have h := writes_m0 (m := m) (W := W) (t := t) (w := nv W (16 + l)) (v := Int32.ofNat 0)
  have g := itFalls_m0 (m := m) (W := W) (t := t) (y := 2)
  generalize q_writes m W t (nv W (16 + l)) (Int32.ofNat 0) = c at h ⊢
  generalize q_itFalls m W t 2 = c2 at g ⊢
  exact cndi (fun q : QT => M0 m q.2.2) (cndi (fun q : QT => M0 m q.2.2) (cndi (fun q : QT => M0 m q.2.2) (M0.rf m) (M0.rf m)) g) (cndi (fun q : QT => M0 m q.2.2) (cndi (fun q : QT => M0 m q.2.2) h h) (cndi (fun q : QT => M0 m q.2.2) h h))
theorem putsOut_m0 {m : Nat → Nat → Int32} {W : Nat → Int32} {t : Nat} : M0 m (q_putsOut m W t).2.2 := by
  unfold q_putsOut
  have g := itFalls_m0 (m := m) (W := W) (t := t) (y := 3)
  generalize q_itFalls m W t 3 = c2 at g ⊢
  exact cndi (fun q : QT => M0 m q.2.2) (cndi (fun q : QT => M0 m q.2.2) (M0.rf m) (M0.rf m)) g
theorem does_m0 {m : Nat → Nat → Int32} {W : Nat → Int32} {t K n : Nat} (hK : K < 8) : M0 m (q_does m W t K n).2.2 := by
  match K, hK with
  | 0, _ => exact takes_m0
  | 1, _ => exact drops_m0
  | 2, _ =>
    show M0 m (q_does2 m W t n).2.2
    unfold q_does2
    have h := reads_m0 (m := m) (W := W) (t := t) (w := Int32.ofNat n)
    generalize q_reads m W t (Int32.ofNat n) = c at h ⊢
    exact cndi (fun q : QT => M0 m q.2.2) h h
  | 3, _ => exact writes_m0
  | 4, _ => exact M0.rf m
  | 5, _ => exact M0.rf m
  | 6, _ => exact M0.rf m
  | 7, _ => exact putsOut_m0
theorem stepsD_m0 {m : Nat → Nat → Int32} {W : Nat → Int32} {t : Nat} {on : Int32} : M0 m (q_stepsD m W t on).2.2 := by
  unfold q_stepsD
  have g := itFalls_m0 (m := m) (W := W) (t := t) (y := 2)
  generalize q_itFalls m W t 2 = c2 at g ⊢
  exact cndi (fun q : QT => M0 m q.2.2) (M0.rf m) (cndi (fun q : QT => M0 m q.2.2) (M0.rf m) g)
theorem steps_m0 {m : Nat → Nat → Int32} {W : Nat → Int32} {t : Nat} (h : KG W t) (ht : t < 4) : M0 m (q_steps m W t).2.2 := by
  unfold q_steps
  have g := (M0.p5 m (Int32.ofNat 0)).tr (does_m0 (m := zm2 m 137 5 (Int32.ofNat 0)) (W := W) (t := t) (n := nv W (376 + 103 * t + (55 + 2 * nv W (376 + 103 * t + 0) + 1))) (Nat.lt_succ_of_le (h.deed ht).2.1.2.2))
  generalize q_does (zm2 m 137 5 (Int32.ofNat 0)) W t (nv W (376 + 103 * t + (55 + 2 * nv W (376 + 103 * t + 0)))) (nv W (376 + 103 * t + (55 + 2 * nv W (376 + 103 * t + 0) + 1))) = c at g ⊢
  exact cndi (fun q : QT => M0 m q.2.2) g (g.tr stepsD_m0)
theorem goesT_m0 {q : Nat} : ∀ (n k : Nat) (W : Nat → Int32) (m : Nat → Nat → Int32), WG W → LT W → M0 m (l_goesT q n k W m).2.2 := by
  intro n
  induction n with
  | zero => intro k W m h hL; exact M0.rf m
  | succ n ih =>
    intro k W m h hL
    rw [l_goesT]
    refine cndh (fun q : QT => M0 m q.2.2) (fun _ => M0.rf m) (fun hc => cndi (fun q : QT => M0 m q.2.2) (M0.rf m) ?_)
    obtain ⟨-, n4, nk⟩ := next_n h hL hc
    have hs := steps_ok (m := m) nk n4
    exact (steps_m0 nk n4).tr (ih _ _ _ hs.1 (LT_of hs.2 n4))
theorem goesT1_m0 {W : Nat → Int32} {m : Nat → Nat → Int32} (h : WG W) (hL : LT W) : WG (q_goesT m W 1).2.1 ∧ LT (q_goesT m W 1).2.1 ∧ M0 m (q_goesT m W 1).2.2 := ⟨(goesT_ok _ _ _ _ h hL).1, (goesT_ok _ _ _ _ h hL).2, goesT_m0 _ _ _ _ h hL⟩
theorem dueOfX_m0 : ∀ (n k : Nat) (W : Nat → Int32) (m : Nat → Nat → Int32), WG W → LT W → M0 m (l_dueOfX n k W m).2.2 := by
  intro n
  induction n with
  | zero => intro k W m h hL; exact M0.rf m
  | succ n ih =>
    intro k W m h hL
    rw [l_dueOfX]
    have a := goesT1_m0 (m := m) h hL
    generalize q_goesT m W 1 = c at a ⊢
    exact cndi (fun q : QT => M0 m q.2.2) (cndi (fun q : QT => M0 m q.2.2) (ih _ _ _ h hL) (cndi (fun q : QT => M0 m q.2.2) (M0.rf m) (cndi (fun q : QT => M0 m q.2.2) (a.2.2.tr (ih _ _ _ a.1 a.2.1)) a.2.2))) (M0.rf m)
theorem dueOf_m0 {t : Nat} : ∀ (n k : Nat) (W : Nat → Int32) (m : Nat → Nat → Int32), WG W → LT W → M0 m (l_dueOf t n k W m).2.2 := by
  intro n
  induction n with
  | zero => intro k W m h hL; exact M0.rf m
  | succ n ih =>
    intro k W m h hL
    rw [l_dueOf]
    have a := goesT1_m0 (m := m) h hL
    generalize q_goesT m W 1 = c at a ⊢
    exact cndi (fun q : QT => M0 m q.2.2) (cndi (fun q : QT => M0 m q.2.2) (ih _ _ _ h hL) (cndi (fun q : QT => M0 m q.2.2) (M0.rf m) (cndi (fun q : QT => M0 m q.2.2) (a.2.2.tr (ih _ _ _ a.1 a.2.1)) a.2.2))) (M0.rf m)
theorem goesD_m0 {q : Nat} : ∀ (n k : Nat) (W : Nat → Int32) (m : Nat → Nat → Int32), WG W → LT W → M0 m (l_goesD q n k W m).2.2 := by
  intro n
  induction n with
  | zero => intro k W m h hL; exact M0.rf m
  | succ n ih =>
    intro k W m h hL
    rw [l_goesD]
    refine cndh (fun q : QT => M0 m q.2.2) (fun _ => M0.rf m) (fun hc => cndi (fun q : QT => M0 m q.2.2) (M0.rf m) ?_)
    obtain ⟨-, n4, nk⟩ := drawn_n h hc
    have hs := steps_ok (m := m) nk n4
    exact (steps_m0 nk n4).tr (ih _ _ _ hs.1 (LT_of hs.2 n4))
theorem dueBy_m0 {W : Nat → Int32} {m : Nat → Nat → Int32} {b : Nat} (h : WG W) (hL : LT W) : M0 m (q_dueBy m W b).2.2 := (M0.z140 m _).tr (dueOfX_m0 _ _ _ _ (h.need _) (hL.put _ (by omega)))
