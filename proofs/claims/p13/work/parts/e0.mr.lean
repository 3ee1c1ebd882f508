/-! what the reference leaves alone: all rows but its fields 0 and 5, and the row aside -/
noncomputable def MR (m m' : Nat → Nat → Int32) : Prop := (∀ i, i ≠ 137 → i ≠ 140 → m' i = m i) ∧ ∀ k, k ≠ 0 → k ≠ 5 → m' 137 k = m 137 k
theorem MR.rf (m : Nat → Nat → Int32) : MR m m := ⟨fun _ _ _ => rfl, fun _ _ _ => rfl⟩
theorem MR.tr {a b c : Nat → Nat → Int32} (h : MR a b) (g : MR b c) : MR a c := ⟨fun i h1 h2 => (g.1 i h1 h2).trans (h.1 i h1 h2), fun k h1 h2 => (g.2 k h1 h2).trans (h.2 k h1 h2)⟩
theorem MR.p5 (m : Nat → Nat → Int32) (x : Int32) : MR m (zm2 m 137 5 x) := ⟨fun i h1 _ => if_neg h1, fun k _ h5 => zx_nk _ _ h5⟩
theorem MR.p0 {m m' : Nat → Nat → Int32} {x : Int32} (h : MR m m') : MR m (zm2 m' 137 0 x) := h.tr ⟨fun i h1 _ => if_neg h1, fun k h0 _ => zx_nk _ _ h0⟩
theorem MR.thr {m m' : Nat → Nat → Int32} {c : Nat} (h : MR m m') : MR m (q_thr1 m' c).2 := h.p0
theorem MR.nt {m m' : Nat → Nat → Int32} {W : Nat → Int32} {t : Int32} (h : MR m m') : MR m (q_noThread m' W t).2 := by
  unfold q_noThread
  exact cndi (fun q : Int32 × (Nat → Nat → Int32) => MR m q.2) h.p0 h.p0.thr
theorem MR.nw {m m' : Nat → Nat → Int32} {w : Int32} (h : MR m m') : MR m (q_noWord m' w).2 := by
  unfold q_noWord
  repeat' (refine cndi (fun q : Int32 × (Nat → Nat → Int32) => MR m q.2) ?_ ?_)
  all_goals first | exact h | exact h.p0 | exact h.thr
theorem MR.z140 (m : Nat → Nat → Int32) (V : Nat → Int32) : MR m (zrow m 140 V) := ⟨fun i _ h2 => if_neg h2, fun k _ _ => congrFun (if_neg (by decide)) k⟩
theorem itFalls_mr {m : Nat → Nat → Int32} {W : Nat → Int32} {t y : Nat} : MR m (q_itFalls m W t y).2 := MR.p5 m _
theorem clears_mr {m : Nat → Nat → Int32} {W : Nat → Int32} {t : Nat} {s : Int32} : MR m (q_clears m W t s).2.2 := by
  unfold q_clears
  exact cndi (fun q : QT => MR m q.2.2) (MR.rf m) (MR.p5 m _)
theorem reads_mr {m : Nat → Nat → Int32} {W : Nat → Int32} {t : Nat} {w : Int32} : MR m (q_reads m W t w).2.2 := by
  unfold q_reads
  have h := clears_mr (m := m) (W := W) (t := t) (s := q_clash W (Int32.ofNat t) (q_blockOf W w) (Int32.ofNat 0))
  generalize q_clears m W t (q_clash W (Int32.ofNat t) (q_blockOf W w) (Int32.ofNat 0)) = c at h ⊢
  exact cndi (fun q : QT => MR m q.2.2) (cndi (fun q : QT => MR m q.2.2) h h) h
theorem writesB_mr {m : Nat → Nat → Int32} {W : Nat → Int32} {t w : Nat} {v b g : Int32} : MR m (q_writesB m W t w v b g).2.2 := by
  unfold q_writesB
  have h := clears_mr (m := m) (W := W) (t := t) (s := q_clash W (Int32.ofNat t) b (Int32.ofNat 1))
  generalize q_clears m W t (q_clash W (Int32.ofNat t) b (Int32.ofNat 1)) = c at h ⊢
  exact cndi (fun q : QT => MR m q.2.2) (cndi (fun q : QT => MR m q.2.2) h h) h
theorem writes_mr {m : Nat → Nat → Int32} {W : Nat → Int32} {t w : Nat} {v : Int32} : MR m (q_writes m W t w v).2.2 := by
  unfold q_writes
  exact cndi (fun q : QT => MR m q.2.2) writesB_mr (cndi (fun q : QT => MR m q.2.2) writesB_mr (cndi (fun q : QT => MR m q.2.2) writesB_mr itFalls_mr))
theorem takesD_mr {m : Nat → Nat → Int32} {W : Nat → Int32} {t l w : Nat} {f : Int32} : MR m (q_takesD m W t l w f).2.2 := by
  unfold q_takesD
  exact cndi (fun q : QT => MR m q.2.2) itFalls_mr itFalls_mr
theorem takesC_mr {m : Nat → Nat → Int32} {W : Nat → Int32} {t l w : Nat} {f : Int32} : MR m (q_takesC m W t l w f).2.2 := by
  unfold q_takesC
  have aD := takesD_mr (m := m) (W := W) (t := t) (l := l) (w := w) (f := f)
  have aw := writes_mr (m := m) (W := W) (t := t) (w := w) (v := Int32.ofNat 1)
  generalize q_takesD m W t l w f = cD at aD ⊢
  generalize q_writes m W t w (Int32.ofNat 1) = cw at aw ⊢
  exact cndi (fun q : QT => MR m q.2.2) (cndi (fun q : QT => MR m q.2.2) (cndi (fun q : QT => MR m q.2.2) aw (cndi (fun q : QT => MR m q.2.2) aw (MR.rf m))) (MR.rf m)) (cndi (fun q : QT => MR m q.2.2) aD (cndi (fun q : QT => MR m q.2.2) (cndi (fun q : QT => MR m q.2.2) (MR.rf m) aw) aD))
theorem takesB_mr {m : Nat → Nat → Int32} {W : Nat → Int32} {t l w : Nat} : MR m (q_takesB m W t l w).2.2 := by
  unfold q_takesB
  exact cndi (fun q : QT => MR m q.2.2) takesC_mr takesC_mr
theorem takes_mr {m : Nat → Nat → Int32} {W : Nat → Int32} {t l : Nat} : MR m (q_takes m W t l).2.2 := by
  unfold q_takes
  have h := reads_mr (m := m) (W := W) (t := t) (w := Int32.ofNat (nv W (16 + l)))
  generalize q_reads m W t (Int32.ofNat (nv W (16 + l))) = c at h ⊢
  exact cndi (fun q : QT => MR m q.2.2) (h.tr takesB_mr) h
theorem drops_mr {m : Nat → Nat → Int32} {W : Nat → Int32} {t l : Nat} : MR m (q_drops m W t l).2.2 := by
  unfold q_drops
  have h := writes_mr (m := m) (W := W) (t := t) (w := nv W (16 + l)) (v := Int32.ofNat 0)
  have g := itFalls_mr (m := m) (W := W) (t := t) (y := 2)
  generalize q_writes m W t (nv W (16 + l)) (Int32.ofNat 0) = c at h ⊢
  generalize q_itFalls m W t 2 = c2 at g ⊢
  exact cndi (fun q : QT => MR m q.2.2) (cndi (fun q : QT => MR m q.2.2) (cndi (fun q : QT => MR m q.2.2) (MR.rf m) (MR.rf m)) g) (cndi (fun q : QT => MR m q.2.2) (cndi (fun q : QT => MR m q.2.2) h h) (cndi (fun q : QT => MR m q.2.2) h h))
theorem putsOut_mr {m : Nat → Nat → Int32} {W : Nat → Int32} {t : Nat} : MR m (q_putsOut m W t).2.2 := by
  unfold q_putsOut
  have g := itFalls_mr (m := m) (W := W) (t := t) (y := 3)
  generalize q_itFalls m W t 3 = c2 at g ⊢
  exact cndi (fun q : QT => MR m q.2.2) (cndi (fun q : QT => MR m q.2.2) (MR.rf m) (MR.rf m)) g
theorem does_mr {m : Nat → Nat → Int32} {W : Nat → Int32} {t K n : Nat} (hK : K < 8) : MR m (q_does m W t K n).2.2 := by
  match K, hK with
  | 0, _ => exact takes_mr
  | 1, _ => exact drops_mr
  | 2, _ =>
    show MR m (q_does2 m W t n).2.2
    unfold q_does2
    have h := reads_mr (m := m) (W := W) (t := t) (w := Int32.ofNat n)
    generalize q_reads m W t (Int32.ofNat n) = c at h ⊢
    exact cndi (fun q : QT => MR m q.2.2) h h
  | 3, _ => exact writes_mr
  | 4, _ => exact MR.rf m
  | 5, _ => exact MR.rf m
  | 6, _ => exact MR.rf m
  | 7, _ => exact putsOut_mr
theorem stepsD_mr {m : Nat → Nat → Int32} {W : Nat → Int32} {t : Nat} {on : Int32} : MR m (q_stepsD m W t on).2.2 := by
  unfold q_stepsD
  have g := itFalls_mr (m := m) (W := W) (t := t) (y := 2)
  generalize q_itFalls m W t 2 = c2 at g ⊢
  exact cndi (fun q : QT => MR m q.2.2) (MR.rf m) (cndi (fun q : QT => MR m q.2.2) (MR.rf m) g)
theorem steps_mr {m : Nat → Nat → Int32} {W : Nat → Int32} {t : Nat} (h : KG W t) (ht : t < 4) : MR m (q_steps m W t).2.2 := by
  unfold q_steps
  have g := (MR.p5 m (Int32.ofNat 0)).tr (does_mr (m := zm2 m 137 5 (Int32.ofNat 0)) (W := W) (t := t) (n := nv W (376 + 103 * t + (55 + 2 * nv W (376 + 103 * t + 0) + 1))) (Nat.lt_succ_of_le (h.deed ht).2.1.2.2))
  generalize q_does (zm2 m 137 5 (Int32.ofNat 0)) W t (nv W (376 + 103 * t + (55 + 2 * nv W (376 + 103 * t + 0)))) (nv W (376 + 103 * t + (55 + 2 * nv W (376 + 103 * t + 0) + 1))) = c at g ⊢
  exact cndi (fun q : QT => MR m q.2.2) g (g.tr stepsD_mr)
theorem goesT_mr {q : Nat} : ∀ (n k : Nat) (W : Nat → Int32) (m : Nat → Nat → Int32), WG W → LT W → MR m (l_goesT q n k W m).2.2 := by
  intro n
  induction n with
  | zero => intro k W m h hL; exact MR.rf m
  | succ n ih =>
    intro k W m h hL
    rw [l_goesT]
    refine cndh (fun q : QT => MR m q.2.2) (fun _ => MR.rf m) (fun hc => cndi (fun q : QT => MR m q.2.2) (MR.rf m) ?_)
    obtain ⟨-, n4, nk⟩ := next_n h hL hc
    have hs := steps_ok (m := m) nk n4
    exact (steps_mr nk n4).tr (ih _ _ _ hs.1 (LT_of hs.2 n4))
theorem goesT1_mr {W : Nat → Int32} {m : Nat → Nat → Int32} (h : WG W) (hL : LT W) : WG (q_goesT m W 1).2.1 ∧ LT (q_goesT m W 1).2.1 ∧ MR m (q_goesT m W 1).2.2 := ⟨(goesT_ok _ _ _ _ h hL).1, (goesT_ok _ _ _ _ h hL).2, goesT_mr _ _ _ _ h hL⟩
theorem dueOfX_mr : ∀ (n k : Nat) (W : Nat → Int32) (m : Nat → Nat → Int32), WG W → LT W → MR m (l_dueOfX n k W m).2.2 := by
  intro n
  induction n with
  | zero => intro k W m h hL; exact MR.rf m
  | succ n ih =>
    intro k W m h hL
    rw [l_dueOfX]
    have a := goesT1_mr (m := m) h hL
    generalize q_goesT m W 1 = c at a ⊢
    exact cndi (fun q : QT => MR m q.2.2) (cndi (fun q : QT => MR m q.2.2) (ih _ _ _ h hL) (cndi (fun q : QT => MR m q.2.2) (MR.rf m) (cndi (fun q : QT => MR m q.2.2) (a.2.2.tr (ih _ _ _ a.1 a.2.1)) a.2.2))) (MR.rf m)
theorem dueOf_mr {t : Nat} : ∀ (n k : Nat) (W : Nat → Int32) (m : Nat → Nat → Int32), WG W → LT W → MR m (l_dueOf t n k W m).2.2 := by
  intro n
  induction n with
  | zero => intro k W m h hL; exact MR.rf m
  | succ n ih =>
    intro k W m h hL
    rw [l_dueOf]
    have a := goesT1_mr (m := m) h hL
    generalize q_goesT m W 1 = c at a ⊢
    exact cndi (fun q : QT => MR m q.2.2) (cndi (fun q : QT => MR m q.2.2) (ih _ _ _ h hL) (cndi (fun q : QT => MR m q.2.2) (MR.rf m) (cndi (fun q : QT => MR m q.2.2) (a.2.2.tr (ih _ _ _ a.1 a.2.1)) a.2.2))) (MR.rf m)
theorem goesD_mr {q : Nat} : ∀ (n k : Nat) (W : Nat → Int32) (m : Nat → Nat → Int32), WG W → LT W → MR m (l_goesD q n k W m).2.2 := by
  intro n
  induction n with
  | zero => intro k W m h hL; exact MR.rf m
  | succ n ih =>
    intro k W m h hL
    rw [l_goesD]
    refine cndh (fun q : QT => MR m q.2.2) (fun _ => MR.rf m) (fun hc => cndi (fun q : QT => MR m q.2.2) (MR.rf m) ?_)
    obtain ⟨-, n4, nk⟩ := drawn_n h hc
    have hs := steps_ok (m := m) nk n4
    exact (steps_mr nk n4).tr (ih _ _ _ hs.1 (LT_of hs.2 n4))
theorem dueBy_mr {W : Nat → Int32} {m : Nat → Nat → Int32} {b : Nat} (h : WG W) (hL : LT W) : MR m (q_dueBy m W b).2.2 := (MR.z140 m _).tr (dueOfX_mr _ _ _ _ (h.need _) (hL.put _ (by omega)))
noncomputable def QK (m : Nat → Nat → Int32) (q : Int32 × (Nat → Int32) × (Nat → Nat → Int32)) : Prop := (WG q.2.1 ∧ LT q.2.1) ∧ MR m q.2.2
theorem QK.mk {m m' : Nat → Nat → Int32} {W : Nat → Int32} {v : Int32} (h : WG W ∧ LT W) (f : MR m m') : QK m (v, W, m') := ⟨h, f⟩
theorem QK.tr {m m' : Nat → Nat → Int32} {q : Int32 × (Nat → Int32) × (Nat → Nat → Int32)} (f : MR m m') (h : QK m' q) : QK m q := ⟨h.1, f.tr h.2⟩
theorem quickL_mr {x : Int32} : ∀ (n : Nat) (b l : Int32) (k : Nat) (W : Nat → Int32) (m : Nat → Nat → Int32), WG W → LT W → QK m (l_quickest x n b l k W m) := by
  intro n
  induction n with
  | zero => intro b l k W m h hL; rw [l_quickest]; exact cndi (QK m) (QK.mk ⟨h, hL⟩ (MR.rf m)) (QK.mk ⟨h, hL⟩ (MR.rf m))
  | succ n ih =>
    intro b l k W m h hL
    have d := dueBy_mr (m := m) (b := k) h hL
    have e := dueBy_ok (m := m) (b := k) h hL
    rw [l_quickest]
    generalize q_dueBy m W k = c at d e ⊢
    have h2 := WG_of h e
    have hL2 := LT_eq hL (e 12 (by omega))
    have s : ∀ b l, QK m (l_quickest x n b l (k + 1) c.2.1 c.2.2) := fun b l => QK.tr d (ih b l (k + 1) c.2.1 c.2.2 h2 hL2)
    exact cndi (QK m) (s _ _) (cndi (QK m) (s _ _) (cndi (QK m) (s _ _) (s _ _)))
