/-! e0.mr e1.mi e2.mi e3.mi e35.rel e36.rel e37.rel e38.rel e39.rel e3a.rel e3b.rel e3c.rel e3d.rel e3e.rel e3f.rel e4.relx e5.bits e6.count -/
section
/-! what the reference leaves alone: all rows but its fields 0 and 5, and the row aside -/
noncomputable def MR (m m' : Nat → Nat → Int32) : Prop := (∀ i, i ≠ 137 → i ≠ 140 → m' i = m i) ∧ ∀ k, k ≠ 0 → k ≠ 5 → m' 137 k = m 137 k
theorem MR.rf (m : Nat → Nat → Int32) : MR m m := ⟨fun _ _ _ => rfl, fun _ _ _ => rfl⟩
theorem MR.tr {a b c : Nat → Nat → Int32} (h : MR a b) (g : MR b c) : MR a c := ⟨fun i h1 h2 => (g.1 i h1 h2).trans (h.1 i h1 h2), fun k h1 h2 => (g.2 k h1 h2).trans (h.2 k h1 h2)⟩
theorem MR.p5 (m : Nat → Nat → Int32) (x : Int32) : MR m (zm2 m 137 5 x) := ⟨fun i h1 _ => if_neg h1, fun k _ h5 => zx_nk _ _ h5⟩
theorem MR.p0 {m m' : Nat → Nat → Int32} {x : Int32} (h : MR m m') : MR m (zm2 m' 137 0 x) := h.tr ⟨fun i h1 _ => if_neg h1, fun k h0 _ => zx_nk _ _ h0⟩
theorem MR.thr {m m' : Nat → Nat → Int32} {c : Nat} (h : MR m m') : MR m (q_thr1 m' c).2 := h.p0
theorem MR.nt {m m' : Nat → Nat → Int32} {W : Nat → Int32} {t : Int32} (h : MR m m') : MR m (q_noThread m' W t).2 := by
  unfold q_noThread
  exact cndi (fun q : Int32 × (Nat → Nat → Int32) => MR m q.2) h.p0 h.p0.thr
theorem MR.nw {m m' : Nat → Nat → Int32} {w : Int32} (h : MR m m') : MR m (q_noWord m' w).2 := by
  unfold q_noWord
  repeat' (refine cndi (fun q : Int32 × (Nat → Nat → Int32) => MR m q.2) ?_ ?_)
  all_goals first | exact h | exact h.p0 | exact h.thr
theorem MR.z140 (m : Nat → Nat → Int32) (V : Nat → Int32) : MR m (zrow m 140 V) := ⟨fun i _ h2 => if_neg h2, fun k _ _ => congrFun (if_neg (by decide)) k⟩
theorem itFalls_mr {m : Nat → Nat → Int32} {W : Nat → Int32} {t y : Nat} : MR m (q_itFalls m W t y).2 := MR.p5 m _
theorem clears_mr {m : Nat → Nat → Int32} {W : Nat → Int32} {t : Nat} {s : Int32} : MR m (q_clears m W t s).2.2 := by
  unfold q_clears
  exact cndi (fun q : QT => MR m q.2.2) (MR.rf m) (MR.p5 m _)
theorem reads_mr {m : Nat → Nat → Int32} {W : Nat → Int32} {t : Nat} {w : Int32} : MR m (q_reads m W t w).2.2 := by
  unfold q_reads
  have h := clears_mr (m := m) (W := W) (t := t) (s := q_clash W (Int32.ofNat t) (q_blockOf W w) (Int32.ofNat 0))
  generalize q_clears m W t (q_clash W (Int32.ofNat t) (q_blockOf W w) (Int32.ofNat 0)) = c at h ⊢
  exact cndi (fun q : QT => MR m q.2.2) (cndi (fun q : QT => MR m q.2.2) h h) h
theorem writesB_mr {m : Nat → Nat → Int32} {W : Nat → Int32} {t w : Nat} {v b g : Int32} : MR m (q_writesB m W t w v b g).2.2 := by
  unfold q_writesB
  have h := clears_mr (m := m) (W := W) (t := t) (s := q_clash W (Int32.ofNat t) b (Int32.ofNat 1))
  generalize q_clears m W t (q_clash W (Int32.ofNat t) b (Int32.ofNat 1)) = c at h ⊢
  exact cndi (fun q : QT => MR m q.2.2) (cndi (fun q : QT => MR m q.2.2) h h) h
theorem writes_mr {m : Nat → Nat → Int32} {W : Nat → Int32} {t w : Nat} {v : Int32} : MR m (q_writes m W t w v).2.2 := by
  unfold q_writes
  exact cndi (fun q : QT => MR m q.2.2) writesB_mr (cndi (fun q : QT => MR m q.2.2) writesB_mr (cndi (fun q : QT => MR m q.2.2) writesB_mr itFalls_mr))
theorem takesD_mr {m : Nat → Nat → Int32} {W : Nat → Int32} {t l w : Nat} {f : Int32} : MR m (q_takesD m W t l w f).2.2 := by
  unfold q_takesD
  exact cndi (fun q : QT => MR m q.2.2) itFalls_mr itFalls_mr
theorem takesC_mr {m : Nat → Nat → Int32} {W : Nat → Int32} {t l w : Nat} {f : Int32} : MR m (q_takesC m W t l w f).2.2 := by
  unfold q_takesC
  have aD := takesD_mr (m := m) (W := W) (t := t) (l := l) (w := w) (f := f)
  have aw := writes_mr (m := m) (W := W) (t := t) (w := w) (v := Int32.ofNat 1)
  generalize q_takesD m W t l w f = cD at aD ⊢
  generalize q_writes m W t w (Int32.ofNat 1) = cw at aw ⊢
  exact cndi (fun q : QT => MR m q.2.2) (cndi (fun q : QT => MR m q.2.2) (cndi (fun q : QT => MR m q.2.2) aw (cndi (fun q : QT => MR m q.2.2) aw (MR.rf m))) (MR.rf m)) (cndi (fun q : QT => MR m q.2.2) aD (cndi (fun q : QT => MR m q.2.2) (cndi (fun q : QT => MR m q.2.2) (MR.rf m) aw) aD))
theorem takesB_mr {m : Nat → Nat → Int32} {W : Nat → Int32} {t l w : Nat} : MR m (q_takesB m W t l w).2.2 := by
  unfold q_takesB
  exact cndi (fun q : QT => MR m q.2.2) takesC_mr takesC_mr
theorem takes_mr {m : Nat → Nat → Int32} {W : Nat → Int32} {t l : Nat} : MR m (q_takes m W t l).2.2 := by
  unfold q_takes
  have h := reads_mr (m := m) (W := W) (t := t) (w := Int32.ofNat (nv W (16 + l)))
  generalize q_reads m W t (Int32.ofNat (nv W (16 + l))) = c at h ⊢
  exact cndi (fun q : QT => MR m q.2.2) (h.tr takesB_mr) h
theorem drops_mr {m : Nat → Nat → Int32} {W : Nat → Int32} {t l : Nat} : MR m (q_drops m W t l).2.2 := by
  unfold q_drops
  have h := writes_mr (m := m) (W := W) (t := t) (w := nv W (16 + l)) (v := Int32.ofNat 0)
  have g := itFalls_mr (m := m) (W := W) (t := t) (y := 2)
  generalize q_writes m W t (nv W (16 + l)) (Int32.ofNat 0) = c at h ⊢
  generalize q_itFalls m W t 2 = c2 at g ⊢
  exact cndi (fun q : QT => MR m q.2.2) (cndi (fun q : QT => MR m q.2.2) (cndi (fun q : QT => MR m q.2.2) (MR.rf m) (MR.rf m)) g) (cndi (fun q : QT => MR m q.2.2) (cndi (fun q : QT => MR m q.2.2) h h) (cndi (fun q : QT => MR m q.2.2) h h))
theorem putsOut_mr {m : Nat → Nat → Int32} {W : Nat → Int32} {t : Nat} : MR m (q_putsOut m W t).2.2 := by
  unfold q_putsOut
  have g := itFalls_mr (m := m) (W := W) (t := t) (y := 3)
  generalize q_itFalls m W t 3 = c2 at g ⊢
  exact cndi (fun q : QT => MR m q.2.2) (cndi (fun q : QT => MR m q.2.2) (MR.rf m) (MR.rf m)) g
theorem does_mr {m : Nat → Nat → Int32} {W : Nat → Int32} {t K n : Nat} (hK : K < 8) : MR m (q_does m W t K n).2.2 := by
  match K, hK with
  | 0, _ => exact takes_mr
  | 1, _ => exact drops_mr
  | 2, _ =>
    show MR m (q_does2 m W t n).2.2
    unfold q_does2
    have h := reads_mr (m := m) (W := W) (t := t) (w := Int32.ofNat n)
    generalize q_reads m W t (Int32.ofNat n) = c at h ⊢
    exact cndi (fun q : QT => MR m q.2.2) h h
  | 3, _ => exact writes_mr
  | 4, _ => exact MR.rf m
  | 5, _ => exact MR.rf m
  | 6, _ => exact MR.rf m
  | 7, _ => exact putsOut_mr
theorem stepsD_mr {m : Nat → Nat → Int32} {W : Nat → Int32} {t : Nat} {on : Int32} : MR m (q_stepsD m W t on).2.2 := by
  unfold q_stepsD
  have g := itFalls_mr (m := m) (W := W) (t := t) (y := 2)
  generalize q_itFalls m W t 2 = c2 at g ⊢
  exact cndi (fun q : QT => MR m q.2.2) (MR.rf m) (cndi (fun q : QT => MR m q.2.2) (MR.rf m) g)
theorem steps_mr {m : Nat → Nat → Int32} {W : Nat → Int32} {t : Nat} (h : KG W t) (ht : t < 4) : MR m (q_steps m W t).2.2 := by
  unfold q_steps
  have g := (MR.p5 m (Int32.ofNat 0)).tr (does_mr (m := zm2 m 137 5 (Int32.ofNat 0)) (W := W) (t := t) (n := nv W (376 + 103 * t + (55 + 2 * nv W (376 + 103 * t + 0) + 1))) (Nat.lt_succ_of_le (h.deed ht).2.1.2.2))
  generalize q_does (zm2 m 137 5 (Int32.ofNat 0)) W t (nv W (376 + 103 * t + (55 + 2 * nv W (376 + 103 * t + 0)))) (nv W (376 + 103 * t + (55 + 2 * nv W (376 + 103 * t + 0) + 1))) = c at g ⊢
  exact cndi (fun q : QT => MR m q.2.2) g (g.tr stepsD_mr)
theorem goesT_mr {q : Nat} : ∀ (n k : Nat) (W : Nat → Int32) (m : Nat → Nat → Int32), WG W → LT W → MR m (l_goesT q n k W m).2.2 := by
  intro n
  induction n with
  | zero => intro k W m h hL; exact MR.rf m
  | succ n ih =>
    intro k W m h hL
    rw [l_goesT]
    refine cndh (fun q : QT => MR m q.2.2) (fun _ => MR.rf m) (fun hc => cndi (fun q : QT => MR m q.2.2) (MR.rf m) ?_)
    obtain ⟨-, n4, nk⟩ := next_n h hL hc
    have hs := steps_ok (m := m) nk n4
    exact (steps_mr nk n4).tr (ih _ _ _ hs.1 (LT_of hs.2 n4))
theorem goesT1_mr {W : Nat → Int32} {m : Nat → Nat → Int32} (h : WG W) (hL : LT W) : WG (q_goesT m W 1).2.1 ∧ LT (q_goesT m W 1).2.1 ∧ MR m (q_goesT m W 1).2.2 := ⟨(goesT_ok _ _ _ _ h hL).1, (goesT_ok _ _ _ _ h hL).2, goesT_mr _ _ _ _ h hL⟩
theorem dueOfX_mr : ∀ (n k : Nat) (W : Nat → Int32) (m : Nat → Nat → Int32), WG W → LT W → MR m (l_dueOfX n k W m).2.2 := by
  intro n
  induction n with
  | zero => intro k W m h hL; exact MR.rf m
  | succ n ih =>
    intro k W m h hL
    rw [l_dueOfX]
    have a := goesT1_mr (m := m) h hL
    generalize q_goesT m W 1 = c at a ⊢
    exact cndi (fun q : QT => MR m q.2.2) (cndi (fun q : QT => MR m q.2.2) (ih _ _ _ h hL) (cndi (fun q : QT => MR m q.2.2) (MR.rf m) (cndi (fun q : QT => MR m q.2.2) (a.2.2.tr (ih _ _ _ a.1 a.2.1)) a.2.2))) (MR.rf m)
theorem dueOf_mr {t : Nat} : ∀ (n k : Nat) (W : Nat → Int32) (m : Nat → Nat → Int32), WG W → LT W → MR m (l_dueOf t n k W m).2.2 := by
  intro n
  induction n with
  | zero => intro k W m h hL; exact MR.rf m
  | succ n ih =>
    intro k W m h hL
    rw [l_dueOf]
    have a := goesT1_mr (m := m) h hL
    generalize q_goesT m W 1 = c at a ⊢
    exact cndi (fun q : QT => MR m q.2.2) (cndi (fun q : QT => MR m q.2.2) (ih _ _ _ h hL) (cndi (fun q : QT => MR m q.2.2) (MR.rf m) (cndi (fun q : QT => MR m q.2.2) (a.2.2.tr (ih _ _ _ a.1 a.2.1)) a.2.2))) (MR.rf m)
theorem goesD_mr {q : Nat} : ∀ (n k : Nat) (W : Nat → Int32) (m : Nat → Nat → Int32), WG W → LT W → MR m (l_goesD q n k W m).2.2 := by
  intro n
  induction n with
  | zero => intro k W m h hL; exact MR.rf m
  | succ n ih =>
    intro k W m h hL
    rw [l_goesD]
    refine cndh (fun q : QT => MR m q.2.2) (fun _ => MR.rf m) (fun hc => cndi (fun q : QT => MR m q.2.2) (MR.rf m) ?_)
    obtain ⟨-, n4, nk⟩ := drawn_n h hc
    have hs := steps_ok (m := m) nk n4
    exact (steps_mr nk n4).tr (ih _ _ _ hs.1 (LT_of hs.2 n4))
theorem dueBy_mr {W : Nat → Int32} {m : Nat → Nat → Int32} {b : Nat} (h : WG W) (hL : LT W) : MR m (q_dueBy m W b).2.2 := (MR.z140 m _).tr (dueOfX_mr _ _ _ _ (h.need _) (hL.put _ (by omega)))
noncomputable def QK (m : Nat → Nat → Int32) (q : Int32 × (Nat → Int32) × (Nat → Nat → Int32)) : Prop := (WG q.2.1 ∧ LT q.2.1) ∧ MR m q.2.2
theorem QK.mk {m m' : Nat → Nat → Int32} {W : Nat → Int32} {v : Int32} (h : WG W ∧ LT W) (f : MR m m') : QK m (v, W, m') := ⟨h, f⟩
theorem QK.tr {m m' : Nat → Nat → Int32} {q : Int32 × (Nat → Int32) × (Nat → Nat → Int32)} (f : MR m m') (h : QK m' q) : QK m q := ⟨h.1, f.tr h.2⟩
theorem quickL_mr {x : Int32} : ∀ (n : Nat) (b l : Int32) (k : Nat) (W : Nat → Int32) (m : Nat → Nat → Int32), WG W → LT W → QK m (l_quickest x n b l k W m) := by
  intro n
  induction n with
  | zero => intro b l k W m h hL; rw [l_quickest]; exact cndi (QK m) (QK.mk ⟨h, hL⟩ (MR.rf m)) (QK.mk ⟨h, hL⟩ (MR.rf m))
  | succ n ih =>
    intro b l k W m h hL
    have d := dueBy_mr (m := m) (b := k) h hL
    have e := dueBy_ok (m := m) (b := k) h hL
    rw [l_quickest]
    generalize q_dueBy m W k = c at d e ⊢
    have h2 := WG_of h e
    have hL2 := LT_eq hL (e 12 (by omega))
    have s : ∀ b l, QK m (l_quickest x n b l (k + 1) c.2.1 c.2.2) := fun b l => QK.tr d (ih b l (k + 1) c.2.1 c.2.2 h2 hL2)
    exact cndi (QK m) (s _ _) (cndi (QK m) (s _ _) (cndi (QK m) (s _ _) (s _ _)))
end
section
/-! the reference as a whole is in order, and stays so -/
noncomputable def WLT (W : Nat → Int32) : Prop := WG W ∧ LT W
noncomputable def MJ (m : Nat → Nat → Int32) (W : Nat → Int32) : Prop := WLT W ∧ (m 137 4 = 0 ∨ WLT (m 139)) ∧ okm m 137 7 400 ∧ (∃ b, b ≤ 400 ∧ m 137 10 = Int32.ofNat b) ∧ okm m 137 16 400
/-- rows below the reference's stay -/
noncomputable def LO (m m' : Nat → Nat → Int32) : Prop := ∀ i, i < 137 → m' i = m i
section ZMJ
variable {m m' : Nat → Nat → Int32} {W W' : Nat → Int32}
theorem LO.rf : LO m m := fun _ _ => rfl
theorem LO.tr {m'' : Nat → Nat → Int32} (h : LO m m') (g : LO m' m'') : LO m m'' := fun i hi => (g i hi).trans (h i hi)
theorem MR.lo (h : MR m m') : LO m m' := fun i hi => h.1 i (by omega) (by omega)
theorem MJ.mr (h : MJ m W) (f : MR m m') (hw : WLT W') : MJ m' W' := by
  have e : ∀ k, k ≠ 0 → k ≠ 5 → m' 137 k = m 137 k := f.2
  refine ⟨hw, ?_, h.2.2.1.of (e 7 (by omega) (by omega)), ?_, h.2.2.2.2.of (e 16 (by omega) (by omega))⟩
  · rw [e 4 (by omega) (by omega), f.1 139 (by omega) (by omega)]
    exact h.2.1
  · rw [e 10 (by omega) (by omega)]
    exact h.2.2.2.1
theorem WLT.of (h : WLT W) (e : ∀ k, k < 788 → W' k = W k) : WLT W' := ⟨WG_of h.1 e, LT_eq h.2 (e 12 (by omega))⟩
theorem crow_of (A B : Nat → Int32) : ∀ k, k < 788 → crow A B k = A k := fun k hk => if_pos hk
theorem fault_mr  : MR m (q_fault m).2 := by
  unfold q_fault
  repeat' (refine cndi (fun q : Int32 × (Nat → Nat → Int32) => MR m q.2) ?_ ?_)
  all_goals (repeat' first | exact MR.rf _ | apply MR.thr | apply MR.nt | apply MR.nw | apply MR.p0)
theorem thread_mr {t x : Int32} : MR m (q_thread m W t x).2 := by
  unfold q_thread
  repeat' (refine cndi (fun q : Int32 × (Nat → Nat → Int32) => MR m q.2) ?_ ?_)
  all_goals (repeat' first | exact MR.rf _ | apply MR.thr | apply MR.nt | apply MR.nw | apply MR.p0)
theorem leftOut_mr {t k : Int32} : MR m (q_leftOut m W t k).2 := by
  unfold q_leftOut
  repeat' (refine cndi (fun q : Int32 × (Nat → Nat → Int32) => MR m q.2) ?_ ?_)
  all_goals (repeat' first | exact MR.rf _ | apply MR.thr | apply MR.nt | apply MR.nw | apply MR.p0)
theorem blocks_mr {t x : Int32} : MR m (q_blocks m W t x).2 := by
  unfold q_blocks
  repeat' (refine cndi (fun q : Int32 × (Nat → Nat → Int32) => MR m q.2) ?_ ?_)
  all_goals (repeat' first | exact MR.rf _ | apply MR.thr | apply MR.nt | apply MR.nw | apply MR.p0)
theorem fell_mr {t y : Int32} : MR m (q_fell m W t y).2 := by
  unfold q_fell
  repeat' (refine cndi (fun q : Int32 × (Nat → Nat → Int32) => MR m q.2) ?_ ?_)
  all_goals (repeat' first | exact MR.rf _ | apply MR.thr | apply MR.nt | apply MR.nw | apply MR.p0)
theorem word_mr {w : Int32} : MR m (q_word m W w).2 := by
  unfold q_word
  repeat' (refine cndi (fun q : Int32 × (Nat → Nat → Int32) => MR m q.2) ?_ ?_)
  all_goals (repeat' first | exact MR.rf _ | apply MR.thr | apply MR.nt | apply MR.nw | apply MR.p0)
theorem sees_mr {t w : Int32} : MR m (q_sees m W t w).2 := by
  unfold q_sees
  repeat' (refine cndi (fun q : Int32 × (Nat → Nat → Int32) => MR m q.2) ?_ ?_)
  all_goals (repeat' first | exact MR.rf _ | apply MR.thr | apply MR.nt | apply MR.nw | apply MR.p0)
theorem lock_mr {l x : Int32} : MR m (q_lock m W l x).2 := by
  unfold q_lock
  repeat' (refine cndi (fun q : Int32 × (Nat → Nat → Int32) => MR m q.2) ?_ ?_)
  all_goals (repeat' first | exact MR.rf _ | apply MR.thr | apply MR.nt | apply MR.nw | apply MR.p0)
theorem term_mr {x : Int32} : MR m (q_term m W x).2 := by
  unfold q_term
  repeat' (refine cndi (fun q : Int32 × (Nat → Nat → Int32) => MR m q.2) ?_ ?_)
  all_goals (repeat' first | exact MR.rf _ | apply MR.thr | apply MR.nt | apply MR.nw | apply MR.p0)
theorem deed_mr {t p x : Int32} : MR m (q_deed m W t p x).2 := by
  unfold q_deed
  repeat' (refine cndi (fun q : Int32 × (Nat → Nat → Int32) => MR m q.2) ?_ ?_)
  all_goals (repeat' first | exact MR.rf _ | apply MR.thr | apply MR.nt | apply MR.nw | apply MR.p0)
theorem touches_mr {t x : Int32} : MR m (q_touches m W t x).2 := by
  unfold q_touches
  repeat' (refine cndi (fun q : Int32 × (Nat → Nat → Int32) => MR m q.2) ?_ ?_)
  all_goals (repeat' first | exact MR.rf _ | apply MR.thr | apply MR.nt | apply MR.nw | apply MR.p0)
theorem rivals_mr {t u : Int32} : MR m (q_rivals m W t u).2 := by
  unfold q_rivals
  repeat' (refine cndi (fun q : Int32 × (Nat → Nat → Int32) => MR m q.2) ?_ ?_)
  all_goals (repeat' first | exact MR.rf _ | apply MR.thr | apply MR.nt | apply MR.nw | apply MR.p0)
theorem nest_mr {t : Int32} : MR m (q_nest m W t).2 := by
  unfold q_nest
  repeat' (refine cndi (fun q : Int32 × (Nat → Nat → Int32) => MR m q.2) ?_ ?_)
  all_goals (repeat' first | exact MR.rf _ | apply MR.thr | apply MR.nt | apply MR.nw | apply MR.p0)
theorem parts_mr {t : Int32} : MR m (q_parts m W t).2 := by
  unfold q_parts
  repeat' (refine cndi (fun q : Int32 × (Nat → Nat → Int32) => MR m q.2) ?_ ?_)
  all_goals (repeat' first | exact MR.rf _ | apply MR.thr | apply MR.nt | apply MR.nw | apply MR.p0)
theorem output_mr {k x : Int32} : MR m (q_output m W k x).2 := by
  unfold q_output
  repeat' (refine cndi (fun q : Int32 × (Nat → Nat → Int32) => MR m q.2) ?_ ?_)
  all_goals (repeat' first | exact MR.rf _ | apply MR.thr | apply MR.nt | apply MR.nw | apply MR.p0)
theorem log_mr {k x : Int32} : MR m (q_log m W k x).2 := by
  unfold q_log
  repeat' (refine cndi (fun q : Int32 × (Nat → Nat → Int32) => MR m q.2) ?_ ?_)
  all_goals (repeat' first | exact MR.rf _ | apply MR.thr | apply MR.nt | apply MR.nw | apply MR.p0)
theorem count_mr {x : Int32} : MR m (q_count m W x).2 := by
  unfold q_count
  repeat' (refine cndi (fun q : Int32 × (Nat → Nat → Int32) => MR m q.2) ?_ ?_)
  all_goals (repeat' first | exact MR.rf _ | apply MR.thr | apply MR.nt | apply MR.nw | apply MR.p0)
theorem octet_mr {k : Int32} {w : Nat} : MR m (q_octet m k w).2 := by
  unfold q_octet
  repeat' (refine cndi (fun q : Int32 × (Nat → Nat → Int32) => MR m q.2) ?_ ?_)
  all_goals (repeat' first | exact MR.rf _ | apply MR.thr | apply MR.nt | apply MR.nw | apply MR.p0)
theorem thrQ {v : Int32} (h : WLT W) (f : MR m m') : QK m (v, W, m') := ⟨h, f⟩
theorem step_q {t : Int32} (h : WLT W) : QK m (q_step m W t) := by
  have hn : MR m (q_noThread m W t).2 := MR.nt (MR.rf m)
  unfold q_step
  refine cndh (QK m) (fun _ => thrQ h hn) (fun h0 => cndh (QK m) (fun _ => thrQ h hn.thr) (fun h1 => cndi (QK m) ?_ (thrQ h hn.thr)))
  have t9 := (nT_in h.1 h0).2
  have h4 := h.1.N4
  have t4 : t.toNatClampNeg < 4 := by omega
  have hk := nd_KG h.1 t4 h1
  have s := steps_ok (m := (q_noThread m W t).2) hk t4
  have f := steps_mr (m := (q_noThread m W t).2) hk t4
  exact QK.mk ⟨s.1, LT_of s.2 t4⟩ (hn.tr f)
theorem run_q {n : Int32} (h : WLT W) : QK m (q_run m W n) := by
  unfold q_run
  exact cndi (QK m) (QK.mk (goesT_ok _ _ _ _ h.1 h.2) ((MR.rf m).p0.tr (goesT_mr _ _ _ _ h.1 h.2))) (thrQ h (MR.rf m).p0.thr)
theorem chance_q {n : Int32} (h : WLT W) : QK m (q_chance m W n) := by
  unfold q_chance
  exact cndi (QK m) (QK.mk (goesD_ok _ _ _ _ h.1 h.2) ((MR.rf m).p0.tr (goesD_mr _ _ _ _ h.1 h.2))) (thrQ h (MR.rf m).p0.thr)
end ZMJ
end
section
/-! reading leaves the last turn alone -/
noncomputable def R12 (c : Int32) (X : Int32 × (Nat → Int32) × Nat × Nat) : Prop := X.2.1 12 = c
section ZR2
variable {m : Nat → Nat → Int32} {W : Nat → Int32} {p b t : Nat} {c : Int32}
theorem R12.mk {v : Int32} (h : W 12 = c) : R12 c (v, W, p, b) := h
theorem R12.eta {X : Int32 × (Nat → Int32) × Nat × Nat} (h : R12 c X) : R12 c (X.1, X.2.1, X.2.2.1, X.2.2.2) := h
theorem R12.m2 {X : Int32 × (Nat → Int32) × Nat × Nat} {v : Int32} (h : R12 c X) : R12 c (v, X.2.1, p, b) := h
theorem u12 {k : Nat} {x : Int32} (hk : 12 ≠ k) (h : W 12 = c) : upd W k x 12 = c := (upd_ne _ _ hk).trans h
theorem readTo_12 {k : Nat} {lo hi : Int32} (hk : 12 ≠ k) (h : W 12 = c) : R12 c (q_readTo m W p k lo hi) := by
  unfold q_readTo
  exact cndi (R12 c) (R12.mk h) (R12.mk (u12 hk h))
theorem readDeed_12 {L : Nat} (h : W 12 = c) : R12 c (q_readDeed m W p t L) := by
  unfold q_readDeed
  repeat' (refine cndi (R12 c) ?_ ?_)
  all_goals first
    | (refine R12.mk ?_; (repeat' (first | refine u12 (by omega) ?_ | exact h)); done)
    | (repeat' (first | exact h | refine u12 (by omega) ?_))
theorem deeds_12 : ∀ (n L : Nat) (W : Nat → Int32) (p b : Nat), W 12 = c → R12 c (l_deeds m t n L W p b) := by
  intro n
  induction n with
  | zero => intro L W p b h; rw [l_deeds]; exact R12.m2 (readDeed_12 h)
  | succ n ih =>
    intro L W p b h
    have r : R12 c (q_readDeed m W p t L) := readDeed_12 h
    rw [l_deeds]
    generalize q_readDeed m W p t L = X at r ⊢
    exact cndi (R12 c) (cndi (R12 c) (ih _ _ _ _ r) (R12.m2 r)) (R12.m2 r)
theorem rclears_12 : ∀ (n k : Nat) (W : Nat → Int32), W 12 = c → R12 c (l_rclears m p b t n k W) := by
  intro n
  induction n with
  | zero => intro k W h; rw [l_rclears]; unfold q_thread37; exact deeds_12 _ _ _ _ _ (u12 (by omega) h)
  | succ n ih => intro k W h; rw [l_rclears]; exact ih _ _ (u12 (by omega) h)
theorem readThread_12 (h : W 12 = c) : R12 c (q_readThread m W p b) := by
  unfold q_readThread
  exact cndi (R12 c) (rclears_12 _ _ _ h) (R12.mk h)
theorem readWordLine_12 (h : W 12 = c) : R12 c (q_readWordLine m W p) := by
  unfold q_readWordLine
  repeat' (refine cndi (R12 c) ?_ ?_)
  all_goals first
    | (refine R12.mk ?_; (repeat' (first | refine u12 (by omega) ?_ | exact h)); done)
    | (repeat' (first | exact h | refine u12 (by omega) ?_))
theorem readLockL_12 {l w : Int32} (h : W 12 = c) : ∀ (n : Nat) (is : Int32) (o : Nat), (l_readLock W l w n is o).2 12 = c := by
  intro n
  induction n with
  | zero => intro is o; rw [l_readLock]; exact cndi (fun q : Int32 × (Nat → Int32) => q.2 12 = c) h (u12 (by omega) h)
  | succ n ih => intro is o; rw [l_readLock]; exact cndi (fun q : Int32 × (Nat → Int32) => q.2 12 = c) h (cndi (fun q : Int32 × (Nat → Int32) => q.2 12 = c) (ih _ _) (cndi (fun q : Int32 × (Nat → Int32) => q.2 12 = c) (ih _ _) (ih _ _)))
theorem readLock_12 (h : W 12 = c) : R12 c (q_readLock m W p) := by
  have a : ∀ (l w : Int32) (n : Nat) (is : Int32) (o : Nat), (l_readLock W l w n is o).2 12 = c := fun l w n is o => readLockL_12 h n is o
  unfold q_readLock
  repeat' (refine cndi (R12 c) ?_ ?_)
  all_goals first
    | exact R12.mk h
    | exact R12.mk (a _ _ _ _ _)
theorem readTrustL_12 {v : Int32} : ∀ (n l : Nat) (W : Nat → Int32), W 12 = c → (l_readTrust v n l W).2 12 = c := by
  intro n
  induction n with
  | zero => intro l W h; rw [l_readTrust]; exact cndi (fun q : Int32 × (Nat → Int32) => q.2 12 = c) h h
  | succ n ih => intro l W h; rw [l_readTrust]; exact cndi (fun q : Int32 × (Nat → Int32) => q.2 12 = c) h (ih _ _ (u12 (by omega) h))
theorem readTrust_12 (h : W 12 = c) : R12 c (q_readTrust m W p) := by
  unfold q_readTrust
  exact R12.mk (readTrustL_12 _ _ _ h)
theorem readLine_12 (h : W 12 = c) : R12 c (q_readLine m W p b) := by
  have u8 : ∀ x, R12 c (Int32.ofNat 1, upd W 8 x, p, b) := fun x => R12.mk (u12 (by omega) h)
  have no : ∀ (v : Int32) (p b : Nat), R12 c (v, W, p, b) := fun v p b => R12.mk h
  unfold q_readLine
  refine cnd4 (R12 c) (fun _ => cnd4 (R12 c) (fun _ => cnd4 (R12 c) (fun _ => cnd4 (R12 c) (fun _ => cnd4 (R12 c) (fun _ => ?_) (fun _ => ?_)) (fun _ => ?_)) (fun _ => ?_)) (fun _ => ?_)) (fun _ => ?_)
  · refine cnd4 (R12 c) (fun _ => cnd4 (R12 c) (fun _ => u8 _) (fun _ => u8 _)) (fun _ => cnd4 (R12 c) (fun _ => cnd4 (R12 c) (fun _ => no _ _ _) (fun ht => ?_)) (fun _ => cnd4 (R12 c) (fun _ => u8 _) (fun _ => u8 _)))
    have hT := (termHere_k ht).2
    have r : ∀ lo hi, R12 c (q_readTo m W p (q_termHere m p b).toNatClampNeg lo hi) := fun lo hi => readTo_12 (by omega) h
    exact cnd4 (R12 c) (fun _ => R12.m2 (r _ _)) (fun _ => R12.m2 (r _ _))
  · have r : ∀ lo hi, R12 c (q_readTo m W p 0 lo hi) := fun lo hi => readTo_12 (by omega) h
    exact cnd4 (R12 c) (fun _ => no _ _ _) (fun _ => cnd4 (R12 c) (fun _ => R12.m2 (r _ _)) (fun _ => R12.m2 (r _ _)))
  · exact R12.eta (readTrust_12 h)
  · exact R12.eta (readLock_12 h)
  · exact R12.eta (readWordLine_12 h)
  · exact R12.eta (readThread_12 h)
theorem readTextL_12 : ∀ (n k : Nat) (W : Nat → Int32) (p b : Nat), W 12 = c → R12 c (l_readText m n k W p b) := by
  intro n
  induction n with
  | zero => intro k W p b h; rw [l_readText]; exact R12.mk h
  | succ n ih =>
    intro k W p b h
    have r : R12 c (q_readLine m W (q_letters m p).1 (q_letters m p).2) := readLine_12 h
    rw [l_readText]
    generalize q_readLine m W (q_letters m p).1 (q_letters m p).2 = X at r ⊢
    repeat' (refine cndi (R12 c) ?_ ?_)
    all_goals first
      | exact ih _ _ _ _ r
      | exact R12.m2 r
theorem readText_12 (h : W 12 = c) : R12 c (q_readText m W p) := by
  unfold q_readText
  exact cndi (R12 c) (readTextL_12 _ _ _ _ _ h) (R12.mk h)
end ZR2
section ZMK
variable {m m' : Nat → Nat → Int32} {W W' : Nat → Int32}
theorem falls_12 {t y : Nat} (h : WG W) (ht : t < 4) (hy : y < 5) : q_falls W t y 12 = W 12 := falls_fr ht hy h.C (h.L t ht).2 (by omega) (by omega) (by omega) (fun c e => absurd e (by omega))
theorem clearsL_12 {t s : Int32} {n9 : Nat} (hn : n9 ≤ 4) : ∀ (n k : Nat) (W : Nat → Int32), k + n = n9 → WG W → (l_clears t s n9 n k W).2 12 = W 12 := by
  intro n
  induction n with
  | zero => intro k W _ _; rfl
  | succ n ih =>
    intro k W hk h
    rw [l_clears]
    exact cndi (fun q : Int32 × (Nat → Int32) => q.2 12 = W 12) (ih _ _ (by omega) h) ((ih _ _ (by omega) (h.falls (by omega) (by omega))).trans (falls_12 h (by omega) (by omega)))
theorem writesX_12 {w : Nat} {v : Int32} (h : WG W) : (q_writesX W w v).2 12 = W 12 := by
  unfold q_writesX
  have a : ∀ s, (q_clearsX W s).2 12 = W 12 := fun s => clearsL_12 h.N4 _ _ _ (by omega) h
  exact cndi (fun q : Int32 × (Nat → Int32) => q.2 12 = W 12) ((upd_ne _ _ (by omega)).trans (a _)) (a _)
theorem poke_q {w v : Int32} (h : WLT W) : QK m (q_poke m W w v) := by
  unfold q_poke
  refine cndh (QK m) (fun h0 => cndi (QK m) ?_ (thrQ h (MR.rf m).p0.thr)) (fun _ => thrQ h (MR.rf m).p0.thr)
  have hw : w.toNatClampNeg < 32 := by
    have := (in_1 (a := 0) (b := 31) (by omega) (by omega) h0).2.2
    omega
  exact QK.mk ⟨h.1.writesX hw v, LT_eq h.2 (writesX_12 h.1)⟩ (MR.rf m).p0
theorem tune_q {x n : Int32} (h : WLT W) : QK m (q_tune m W x n) := by
  unfold q_tune
  refine cndh (QK m) (fun h0 => cndh (QK m) (fun h1 => ?_) (fun _ => thrQ h (MR.rf m).p0.thr)) (fun _ => thrQ h (MR.rf m).p0.thr)
  obtain ⟨g1, g2, g3⟩ := in_1 (a := 1) (b := 8) (by omega) (by omega) h0
  revert h1 g2 g3
  generalize x.toNatClampNeg = X
  intro h1 g2 g3
  obtain ⟨a, c, e1, e2, e3, e4, e5, e6⟩ := term_bd X (by omega)
  rw [e1, e2] at h1
  obtain ⟨k1, k2, k3⟩ := in_1 (a := a) (b := c) (by omega) (by omega) h1
  refine QK.mk ⟨h.1.low (by omega) (by omega) (fun q => ok_upd k1 ?_ ?_ (by omega)) (fun q => ok_upd k1 ?_ ?_ (by omega)) (by omega) (by omega) (by omega), h.2.put _ (by omega)⟩ (MR.rf m).p0
  · have := e5 q; omega
  · have := e5 q; omega
  · have := e6 q; omega
  · have := e6 q; omega
theorem seed_q {n : Int32} (h : WLT W) : QK m (q_seed m W n) := QK.mk ⟨h.1.put _ (fre_lo (by omega) (by omega)), h.2.put _ (by omega)⟩ (MR.rf m).p0
theorem plain_q (h : WLT W) : QK m (q_plain m W) := by
  have d := dueBy_mr (m := zm2 m 137 0 (Int32.ofNat 0)) (b := 16) h.1 h.2
  have e := dueBy_ok (m := zm2 m 137 0 (Int32.ofNat 0)) (b := 16) h.1 h.2
  unfold q_plain
  generalize q_dueBy (zm2 m 137 0 (Int32.ofNat 0)) W 16 = c at d e ⊢
  exact QK.mk (h.of e) ((MR.rf m).p0.tr d)
theorem quickest_q {x : Int32} (h : WLT W) : QK m (q_quickest m W x) := by
  unfold q_quickest
  exact cndi (QK m) (QK.tr (MR.rf m).p0 (quickL_mr _ _ _ _ _ _ h.1 h.2)) (thrQ h (MR.rf m).p0.thr)
theorem due_q {t : Int32} (h : WLT W) : QK m (q_due m W t) := by
  have hn : MR m (q_noThread m W t).2 := MR.nt (MR.rf m)
  unfold q_due
  generalize (q_noThread m W t).2 = m1 at hn ⊢
  have f : MR (zrow m1 140 (crow W (m1 140))) (q_dueOf (zrow m1 140 (crow W (m1 140))) W t.toNatClampNeg).2.2 := dueOf_mr _ _ _ _ h.1 h.2
  have g : MF (zrow m1 140 (crow W (m1 140))) (q_dueOf (zrow m1 140 (crow W (m1 140))) W t.toNatClampNeg).2.2 := dueOf_ok _ _ _ _ h.1 h.2
  generalize q_dueOf (zrow m1 140 (crow W (m1 140))) W t.toNatClampNeg = c at f g ⊢
  exact cndi (QK m) (QK.mk (h.of (crow_back g)) ((hn.tr (MR.z140 m1 _)).tr f)) (thrQ h hn)
end ZMK
end
section
/-! the reference's other methods keep the order -/
section ZML
variable {m m' M : Nat → Nat → Int32} {W W' V : Nat → Int32}
theorem zrow_ne {a i : Nat} {w : Nat → Int32} (h : i ≠ a) : zrow m a w i = m i := if_neg h
/-- the memory while a text is told: what matters of it -/
noncomputable def MB (m : Nat → Nat → Int32) (W : Nat → Int32) (M : Nat → Nat → Int32) : Prop := M 137 4 = m 137 4 ∧ M 139 = m 139 ∧ M 137 7 = Int32.ofNat 0 ∧ (∃ b, b ≤ 400 ∧ M 137 10 = Int32.ofNat b) ∧ M 137 16 = m 137 16 ∧ LO m M ∧ ∀ k, k < 788 → M 140 k = W k
theorem MB.put {k : Nat} {x : Int32} (h : MB m W M) (hk : k = 11 ∨ k = 0) : MB m W (zm2 M 137 k x) := by
  obtain ⟨h1, h2, h3, ⟨b, h4, h5⟩, h6, h7, h8⟩ := h
  have e : ∀ l, l ≠ k → zm2 M 137 k x 137 l = M 137 l := fun l hl => zx_nk _ _ hl
  have r : ∀ i, i ≠ 137 → zm2 M 137 k x i = M i := fun i hi => if_neg hi
  refine ⟨(e 4 (by omega)).trans h1, (r 139 (by omega)).trans h2, (e 7 (by omega)).trans h3, ⟨b, h4, (e 10 (by omega)).trans h5⟩, (e 16 (by omega)).trans h6, fun i hi => (r i (by omega)).trans (h7 i hi), fun l hl => ?_⟩
  rw [r 140 (by omega)]
  exact h8 l hl
theorem MB.thr {c : Nat} (h : MB m W M) : MB m W (q_thr1 M c).2 := h.put (Or.inr rfl)
/-- a result in order -/
noncomputable def MO (m : Nat → Nat → Int32) (q : Int32 × (Nat → Int32) × (Nat → Nat → Int32)) : Prop := MJ q.2.2 q.2.1 ∧ LO m q.2.2
noncomputable def MZ (m : Nat → Nat → Int32) (q : Int32 × (Nat → Int32) × (Nat → Nat → Int32)) : Prop := MO m q ∧ q.2.2 137 7 = Int32.ofNat 0 ∧ q.2.2 137 4 = m 137 4
theorem MB.o {v : Int32} (hj : MJ m W) (h : MB m W M) (hw : WLT V) : MZ m (v, V, M) := by
  obtain ⟨h1, h2, h3, h4, h6, h7, h8⟩ := h
  refine ⟨⟨⟨hw, ?_, okm.is h3 (by omega) (by omega), h4, hj.2.2.2.2.of h6⟩, h7⟩, h3, h1⟩
  show M 137 4 = 0 ∨ WLT (M 139)
  rw [h1, h2]
  exact hj.2.1
theorem MB.back {v : Int32} (hj : MJ m W) (h : MB m W M) : MZ m (v, crow (M 140) V, M) := h.o hj (hj.1.of (fun k hk => (crow_of _ _ k hk).trans (h.2.2.2.2.2.2 k hk)))
theorem mM_B {T p b : Nat} (hj : MJ m W) (hT : m 137 7 = Int32.ofNat T) (hb : b ≤ 400) : MB m W (TP (mM m W) p b) := by
  refine ⟨rfl, rfl, rfl, ⟨b, hb, rfl⟩, rfl, fun i hi => ?_, fun k hk => ?_⟩
  · unfold TP
    rw [if_neg (by omega)]
    unfold mM
    rw [zrow_ne (by omega), zm2_i _ _ (by omega), zm2_i _ _ (by omega), zm2_i _ _ (by omega), zm2_i _ _ (by omega)]
  · show crow W _ k = W k
    exact crow_of _ _ k hk
theorem machine_o (hj : MJ m W) : MZ m (q_machine m W) := by
  have h7 := hj.2.2.1
  obtain ⟨g1, g2⟩ := mM_G (W := W) h7.1 h7.2
  have rt := readText_WG (W := W) (p := 0) g1 (Nat.zero_le _) hj.1.1
  have r12 : R12 (W 12) (q_readText (mM m W) W 0) := readText_12 rfl
  have hb : (q_readText (mM m W) W 0).2.2.2 ≤ 400 := by
    have a := rt.1.1
    have c := rt.1.2.1
    have d := h7.2
    omega
  have B := mM_B (p := (q_readText (mM m W) W 0).2.2.1) hj h7.1 hb
  unfold q_machine
  have rw1 := rt.2
  generalize TP (mM m W) (q_readText (mM m W) W 0).2.2.1 (q_readText (mM m W) W 0).2.2.2 = M at B ⊢
  generalize q_readText (mM m W) W 0 = X at rw1 r12 ⊢
  have ok : ∀ (v x : Int32) (M : Nat → Nat → Int32), ¬ X.1 = 0 → MB m W M → MZ m (v, upd X.2.1 10 x, M) := fun v x M hn h => h.o hj ⟨(rw1 hn).put _ (fre_lo (by omega) (by omega)), LT.put (LT_eq hj.1.2 r12) _ (by omega)⟩
  have B1 := B.put (k := 11) (x := M 137 10) (Or.inl rfl)
  have B2 := B.put (k := 11) (x := -1) (Or.inl rfl)
  unfold q_machine38
  refine cnd4 (MZ m) (fun _ => cnd4 (MZ m) (fun hn => cnd4 (MZ m) (fun _ => ok _ _ _ (of_decide_eq_true hn) B1) (fun _ => B1.thr.back hj)) (fun _ => B1.thr.back hj)) (fun _ => cnd4 (MZ m) (fun hn => cnd4 (MZ m) (fun _ => ok _ _ _ (of_decide_eq_true hn) B2) (fun _ => B2.thr.back hj)) (fun _ => B2.thr.back hj))
theorem QK.o {q : Int32 × (Nat → Int32) × (Nat → Nat → Int32)} (hj : MJ m W) (h : QK m q) : MO m q := ⟨hj.mr h.2 h.1, h.2.lo⟩
theorem image_o (hj : MJ m W) : MJ (q_image m W) W ∧ LO m (q_image m W) := by
  refine ⟨⟨hj.1, Or.inr (hj.1.of (W' := q_image m W 139) (fun k hk => crow_of _ _ k hk)), hj.2.2.1, hj.2.2.2.1, hj.2.2.2.2⟩, fun i hi => ?_⟩
  unfold q_image
  rw [zm2_i _ _ (by omega), zrow_ne (by omega), zm2_i _ _ (by omega)]
theorem back_o (hj : MJ m W) : MO m (q_back m W) := by
  have f : MR m (zm2 m 137 0 (Int32.ofNat 0)) := (MR.rf m).p0
  unfold q_back
  refine cndh (MO m) (fun h4 => ?_) (fun _ => (QK.mk hj.1 f).o hj)
  have h5 : ¬ m 137 4 = 0 := of_decide_eq_true h4
  have hw : WLT (m 139) := by
    rcases hj.2.1 with e | e
    · exact absurd e h5
    · exact e
  exact (QK.mk (hw.of (fun k hk => crow_of _ _ k hk)) f).o hj
theorem end_o {n : Int32} (hj : MJ m W) : MJ (q_end m n).2 W ∧ LO m (q_end m n).2 := by
  have f : MR m (zm2 m 137 0 (Int32.ofNat 0)) := (MR.rf m).p0
  have a := hj.mr f hj.1
  unfold q_end
  refine cndh (fun q : Int32 × (Nat → Nat → Int32) => MJ q.2 W ∧ LO m q.2) (fun _ => ⟨a, f.lo⟩) (fun h1 => cndh (fun q : Int32 × (Nat → Nat → Int32) => MJ q.2 W ∧ LO m q.2) (fun h2 => ?_) (fun _ => ⟨a, f.lo⟩))
  rw [a.2.2.1.1] at h2
  have g := i7_of (by have := a.2.2.1.2; omega) h1 h2
  have g4 := a.2.2.1.2
  refine ⟨⟨a.1, a.2.1, ?_, a.2.2.2.1, a.2.2.2.2⟩, fun i hi => (zm2_i _ _ (by omega)).trans (f.lo i hi)⟩
  show okm (zm2 (zm2 m 137 0 (Int32.ofNat 0)) 137 7 n) 137 7 400
  exact okm.is (n := n.toNatClampNeg) ((zx_at _ _ _ _).trans g.1) (by omega) (by omega)
theorem serial_o {v : Int32} (hj : MJ m W) : MJ (q_serial m W v).2 W ∧ LO m (q_serial m W v).2 := by
  have e := serial_137 (m := m) (v := v) hj.1.1
  have r := serial_fr (m := m) (v := v) hj.1.1
  refine ⟨⟨hj.1, ?_, hj.2.2.1.of (e 7 (by omega)), ?_, hj.2.2.2.2.of (e 16 (by omega))⟩, fun i hi => r i (by omega) (by omega) (by omega)⟩
  · rw [e 4 (by omega), r 139 (by omega) (by omega) (by omega)]
    exact hj.2.1
  · rw [e 10 (by omega)]
    exact hj.2.2.2.1
theorem text_o (hj : MJ m W) (h : TF m m') : MJ m' W ∧ LO m m' := by
  obtain ⟨r, e, w, hw, h16⟩ := h
  refine ⟨⟨hj.1, ?_, hj.2.2.1.of (e 7 (by omega) (by omega)), ?_, okm.is h16 hw (by omega)⟩, fun i hi => r i (by omega) (by omega)⟩
  · rw [e 4 (by omega) (by omega), r 139 (by omega) (by omega)]
    exact hj.2.1
  · rw [e 10 (by omega) (by omega)]
    exact hj.2.2.2.1
/-- rows that a feeding leaves alone -/
theorem feedL_v {a b c e f : Int32} {T : Nat} : ∀ (n k : Nat) (m : Nat → Nat → Int32), (∀ i l, i ≠ 141 → i ≠ 137 ∨ l ≠ 7 → (l_feed a b c e f T n k m).2 i l = m i l) ∧ (l_feed a b c e f T n k m).2 137 7 = Int32.ofNat (T + 20) ∧ (l_feed a b c e f T n k m).1 = Int32.ofNat (T + 20) := by
  intro n
  induction n with
  | zero =>
    intro k m
    refine ⟨fun i l _ h2 => ?_, ?_, rfl⟩
    · show zm2 m 137 7 (Int32.ofNat (T + 20)) i l = m i l
      exact zx_o _ _ (by omega)
    · show zm2 m 137 7 (Int32.ofNat (T + 20)) 137 7 = _
      exact zx_at _ _ _ _
  | succ n ih =>
    intro k m
    obtain ⟨g1, g2, g3⟩ := ih (k + 1) (zm2 m 141 (T + k) (vp_nar .byte (((m 142 (k / 4)) >>> ((Int32.ofNat (24 - (8 * (k % 4)))) &&& 31)).toInt8.toInt32)))
    exact ⟨fun i l h1 h2 => (g1 i l h1 h2).trans (zx_ne _ _ _ h1), g2, g3⟩
theorem feed_o {a b c e f : Int32} {T : Nat} (hj : MJ m W) (hT : T ≤ 400) : MJ (q_feed m a b c e f T).2 W ∧ LO m (q_feed m a b c e f T).2 := by
  have f0 : MR m (zm2 m 137 0 (Int32.ofNat 0)) := (MR.rf m).p0
  unfold q_feed
  refine cndh (fun q : Int32 × (Nat → Nat → Int32) => MJ q.2 W ∧ LO m q.2) (fun hq => ?_) (fun _ => ⟨hj.mr f0 hj.1, f0.lo⟩)
  have h20 := tle_t (by omega) (by omega) hq
  obtain ⟨g1, g2, -⟩ := feedL_v (a := a) (b := b) (c := c) (e := e) (f := f) (T := T) 20 0 (zm2 (zm2 (zm2 (zm2 (zm2 (zm2 m 137 0 (Int32.ofNat 0)) 142 0 a) 142 1 b) 142 2 c) 142 3 e) 142 4 f)
  have r : ∀ i l, i ≠ 141 → i ≠ 142 → (i ≠ 137 ∨ (l ≠ 7 ∧ l ≠ 0)) → (l_feed a b c e f T 20 0 (zm2 (zm2 (zm2 (zm2 (zm2 (zm2 m 137 0 (Int32.ofNat 0)) 142 0 a) 142 1 b) 142 2 c) 142 3 e) 142 4 f)).2 i l = m i l := by
    intro i l h1 h2 h3
    rw [g1 i l h1 (by omega), zx_ne _ _ _ h2, zx_ne _ _ _ h2, zx_ne _ _ _ h2, zx_ne _ _ _ h2, zx_ne _ _ _ h2]
    exact zx_o _ _ (by omega)
  refine ⟨⟨hj.1, ?_, okm.is g2 (by omega) (by omega), ?_, hj.2.2.2.2.of (r 137 16 (by omega) (by omega) (by omega))⟩, fun i hi => funext (fun l => r i l (by omega) (by omega) (by omega))⟩
  · have e139 : (l_feed a b c e f T 20 0 (zm2 (zm2 (zm2 (zm2 (zm2 (zm2 m 137 0 (Int32.ofNat 0)) 142 0 a) 142 1 b) 142 2 c) 142 3 e) 142 4 f)).2 139 = m 139 := funext (fun l => r 139 l (by omega) (by omega) (by omega))
    rw [r 137 4 (by omega) (by omega) (by omega), e139]
    exact hj.2.1
  · rw [r 137 10 (by omega) (by omega) (by omega)]
    exact hj.2.2.2.1
end ZML
end
section
/-! the two logs: a ring, and rows that move -/
noncomputable def rowv (W : Nat → Int32) (t w v : Int32) (c : Nat) : Int32 := if c = 0 then W 11 else if c = 1 then t else if c = 2 then w else v
theorem c4 {P : Nat → Prop} (h0 : P 0) (h1 : P 1) (h2 : P 2) (h3 : P 3) {c : Nat} (hc : c < 4) : P c := lt4 h0 h1 h2 h3 hc
theorem logsT_row {W : Nat → Int32} {t w v : Int32} {c : Nat} (hC : nv W 15 < 60) (hc : c < 4) : q_logsT W t w v (136 + 4 * nv W 15 + c) = rowv W t w v c := by
  refine c4 (P := fun c => q_logsT W t w v (136 + 4 * nv W 15 + c) = rowv W t w v c) ?_ ?_ ?_ ?_ hc
  · unfold q_logsT
    rw [upd_ne _ _ (by omega), upd_ne _ _ (by omega), upd_ne _ _ (by omega), upd_ne _ _ (by omega)]
    exact upd_at _ _ _
  · unfold q_logsT
    rw [upd_ne _ _ (by omega), upd_ne _ _ (by omega), upd_ne _ _ (by omega)]
    exact upd_at _ _ _
  · unfold q_logsT
    rw [upd_ne _ _ (by omega), upd_ne _ _ (by omega)]
    exact upd_at _ _ _
  · unfold q_logsT
    rw [upd_ne _ _ (by omega)]
    exact upd_at _ _ _
theorem logsT_old {W : Nat → Int32} {t w v : Int32} {k : Nat} (h15 : k ≠ 15) (hk : k < 136 + 4 * nv W 15 ∨ 136 + 4 * nv W 15 + 4 ≤ k) : q_logsT W t w v k = W k := by
  unfold q_logsT
  simp (disch := omega) only [upd_ne]
theorem logsL_cell {t w v : Int32} : ∀ (n k : Nat) (W : Nat → Int32), k + n = 236 → W 15 = Int32.ofNat 60 → ∀ i, i < 240 → l_logsL t w v n k W (136 + i) = if i < k then W (136 + i) else if i < 236 then W (140 + i) else rowv W t w v (i - 236) := by
  intro n
  induction n with
  | zero =>
    intro k W hk hW i hi
    rw [l_logsL]
    have hn : nv (upd W 15 (W 15 - Int32.ofNat 1)) 15 = 59 := by
      unfold nv
      rw [upd_at, hW]
      decide
    have hk' : k = 236 := by omega
    subst hk'
    by_cases h1 : i < 236
    · rw [if_pos h1, logsT_old (by omega) (by rw [hn]; omega), upd_ne _ _ (by omega)]
    · rw [if_neg h1, if_neg h1]
      have e : 136 + i = 136 + 4 * nv (upd W 15 (W 15 - Int32.ofNat 1)) 15 + (i - 236) := by rw [hn]; omega
      rw [e, logsT_row (by rw [hn]; omega) (by omega)]
      unfold rowv
      rw [upd_ne _ _ (by omega)]
  | succ n ih =>
    intro k W hk hW i hi
    rw [l_logsL, ih _ _ (by omega) (by rw [upd_ne _ _ (by omega)]; exact hW) i hi]
    by_cases h1 : i < k
    · rw [if_pos (by omega), if_pos h1, upd_ne _ _ (by omega)]
    · rw [if_neg h1]
      by_cases h2 : i = k
      · subst h2
        rw [if_pos (by omega), if_pos (by omega), upd_at]
      · rw [if_neg (by omega)]
        by_cases h3 : i < 236
        · rw [if_pos h3, if_pos h3, upd_ne _ _ (by omega)]
        · rw [if_neg h3, if_neg h3]
          unfold rowv
          rw [upd_ne _ _ (by omega)]
/-- the reference's log behind one more row -/
theorem logs_cell {W : Nat → Int32} {t w v : Int32} (hC : WC W) : (nv W 15 < 60 → q_logs W t w v 15 = Int32.ofNat (nv W 15 + 1) ∧ ∀ r c, r < 60 → c < 4 → q_logs W t w v (136 + 4 * r + c) = if r = nv W 15 then rowv W t w v c else W (136 + 4 * r + c)) ∧ (nv W 15 = 60 → q_logs W t w v 15 = Int32.ofNat 60 ∧ ∀ r c, r < 60 → c < 4 → q_logs W t w v (136 + 4 * r + c) = if r = 59 then rowv W t w v c else W (136 + 4 * (r + 1) + c)) := by
  refine ⟨fun h => ?_, fun h => ?_⟩
  · have h1 : zc2 .ne (W 15) (Int32.ofNat 60) = true := by
      apply decide_eq_true
      intro e
      unfold nv at h
      rw [e] at h
      exact absurd h (by decide)
    have e0 : q_logs W t w v = q_logsT W t w v := by unfold q_logs; rw [h1, cond_true]
    rw [e0]
    refine ⟨by rw [logsT_15 h, Int32.ofNat_add, ← hC.1], fun r c hr hc => ?_⟩
    by_cases hn : r = nv W 15
    · rw [if_pos hn, hn]
      exact logsT_row h hc
    · rw [if_neg hn]
      exact logsT_old (by omega) (by omega)
  · have hW : W 15 = Int32.ofNat 60 := by rw [hC.1, h]
    have h1 : zc2 .ne (W 15) (Int32.ofNat 60) = false := by
      rw [hW]
      decide
    have e0 : q_logs W t w v = l_logsL t w v 236 0 W := by unfold q_logs; rw [h1, cond_false]
    rw [e0]
    refine ⟨logsL_15 _ _ _ rfl hW, fun r c hr hc => ?_⟩
    have e1 : 136 + 4 * r + c = 136 + (4 * r + c) := by omega
    rw [e1, logsL_cell 236 0 W rfl hW (4 * r + c) (by omega), if_neg (by omega)]
    by_cases hn : r = 59
    · rw [if_pos hn, if_neg (by omega)]
      have e2 : 4 * r + c - 236 = c := by omega
      rw [e2]
    · rw [if_neg hn, if_pos (by omega)]
      have e2 : 140 + (4 * r + c) = 136 + 4 * (r + 1) + c := by omega
      rw [e2]
end
section
noncomputable def rowc (x t w v : Int32) (c : Nat) : Int32 := if c = 0 then x else if c = 1 then t else if c = 2 then w else v
/-- the class's ring behind one more row: the four cells, what is next -/
noncomputable def la4 (m : Nat → Nat → Int32) (b : Nat) (x t w v : Int32) : Nat → Nat → Int32 := zm2 (zm2 (zm2 (zm2 (zm2 m (b + 41) (mv m (b + 40) 2 * 4) x) (b + 41) (mv m (b + 40) 2 * 4 + 1) t) (b + 41) (mv m (b + 40) 2 * 4 + 2) w) (b + 41) (mv m (b + 40) 2 * 4 + 3) v) (b + 40) 2 (Int32.ofNat ((mv m (b + 40) 2 + 1) % 60))
theorem la_eq (m : Nat → Nat → Int32) (b : Nat) (x t w v : Int32) : x_logAdd m b x t w v = bif zc2 .ge (la4 m b x t w v (b + 40) 1) (Int32.ofNat 60) then la4 m b x t w v else zm2 (la4 m b x t w v) (b + 40) 1 (la4 m b x t w v (b + 40) 1 + Int32.ofNat 1) := rfl
theorem la4_1 {m : Nat → Nat → Int32} {b : Nat} {x t w v : Int32} : la4 m b x t w v (b + 40) 1 = m (b + 40) 1 := by
  unfold la4
  rw [zx_nk _ _ (by omega), zx_ne _ _ _ (by omega), zx_ne _ _ _ (by omega), zx_ne _ _ _ (by omega), zx_ne _ _ _ (by omega)]
theorem la4_2 {m : Nat → Nat → Int32} {b : Nat} {x t w v : Int32} : la4 m b x t w v (b + 40) 2 = Int32.ofNat ((mv m (b + 40) 2 + 1) % 60) := zx_at _ _ _ _
theorem la4_c {m : Nat → Nat → Int32} {b r c : Nat} {x t w v : Int32} (hc : c < 4) : la4 m b x t w v (b + 41) (4 * r + c) = if r = mv m (b + 40) 2 then rowc x t w v c else m (b + 41) (4 * r + c) := by
  unfold la4
  rw [zx_ne _ _ _ (by omega)]
  by_cases h : r = mv m (b + 40) 2
  · rw [if_pos h, h]
    refine c4 (P := fun c => zm2 (zm2 (zm2 (zm2 m (b + 41) (mv m (b + 40) 2 * 4) x) (b + 41) (mv m (b + 40) 2 * 4 + 1) t) (b + 41) (mv m (b + 40) 2 * 4 + 2) w) (b + 41) (mv m (b + 40) 2 * 4 + 3) v (b + 41) (4 * mv m (b + 40) 2 + c) = rowc x t w v c) ?_ ?_ ?_ ?_ hc
    · rw [zx_nk _ _ (by omega), zx_nk _ _ (by omega), zx_nk _ _ (by omega), show 4 * mv m (b + 40) 2 + 0 = mv m (b + 40) 2 * 4 by omega, zx_at]
      rfl
    · rw [zx_nk _ _ (by omega), zx_nk _ _ (by omega), show 4 * mv m (b + 40) 2 + 1 = mv m (b + 40) 2 * 4 + 1 by omega, zx_at]
      rfl
    · rw [zx_nk _ _ (by omega), show 4 * mv m (b + 40) 2 + 2 = mv m (b + 40) 2 * 4 + 2 by omega, zx_at]
      rfl
    · rw [show 4 * mv m (b + 40) 2 + 3 = mv m (b + 40) 2 * 4 + 3 by omega, zx_at]
      rfl
  · rw [if_neg h, zx_nk _ _ (by omega), zx_nk _ _ (by omega), zx_nk _ _ (by omega), zx_nk _ _ (by omega)]
/-- the two logs tell the same -/
noncomputable def RLg (m : Nat → Nat → Int32) (b : Nat) (W : Nat → Int32) : Prop := m (b + 40) 1 = W 15 ∧ ∀ a c, a < nv W 15 → c < 4 → m (b + 41) (4 * ((mv m (b + 40) 2 + 59 - a) % 60) + c) = W (136 + 4 * (nv W 15 - 1 - a) + c)
theorem RLg_add {m : Nat → Nat → Int32} {b : Nat} {W : Nat → Int32} {t w v : Int32} (hC : WC W) (hn : mv m (b + 40) 2 < 60) (h : RLg m b W) : RLg (x_logAdd m b (W 11) t w v) b (q_logs W t w v) := by
  have hrow : ∀ c, rowc (W 11) t w v c = rowv W t w v c := fun c => rfl
  have hnx : mv (la4 m b (W 11) t w v) (b + 40) 2 = (mv m (b + 40) 2 + 1) % 60 := by
    unfold mv
    rw [la4_2]
    exact nv_on (by have : ((m (b + 40) 2).toNatClampNeg + 1) % 60 < 60 := Nat.mod_lt _ (by omega); unfold mv; omega)
  rw [la_eq, la4_1, h.1]
  by_cases h60 : nv W 15 < 60
  · obtain ⟨s1, s2⟩ := (logs_cell (t := t) (w := w) (v := v) hC).1 h60
    have hb : zc2 .ge (W 15) (Int32.ofNat 60) = false := by rw [hC.1]; exact zcge_f (by omega) (by omega) h60
    rw [hb, cond_false]
    have hs : nv (q_logs W t w v) 15 = nv W 15 + 1 := by
      unfold nv at *
      rw [s1]
      exact nv_on (by omega)
    have hm2 : mv (zm2 (la4 m b (W 11) t w v) (b + 40) 1 (W 15 + Int32.ofNat 1)) (b + 40) 2 = (mv m (b + 40) 2 + 1) % 60 := by
      rw [← hnx]
      unfold mv
      rw [zx_nk _ _ (by omega)]
    refine ⟨by rw [zx_at, s1, Int32.ofNat_add, ← hC.1], fun a c ha hc => ?_⟩
    rw [hs] at ha
    rw [zx_ne _ _ _ (by omega), hm2, hs, la4_c hc, s2 _ c (by omega) hc]
    by_cases h0 : a = 0
    · subst h0
      rw [if_pos (by omega), if_pos (by omega)]
      exact hrow c
    · rw [if_neg (by omega), if_neg (by omega)]
      have e1 : ((mv m (b + 40) 2 + 1) % 60 + 59 - a) % 60 = (mv m (b + 40) 2 + 59 - (a - 1)) % 60 := by omega
      have e2 : nv W 15 + 1 - 1 - a = nv W 15 - 1 - (a - 1) := by omega
      rw [e1, e2]
      exact h.2 (a - 1) c (by omega) hc
  · have hs60 : nv W 15 = 60 := by have := hC.2; omega
    obtain ⟨s1, s2⟩ := (logs_cell (t := t) (w := w) (v := v) hC).2 hs60
    have hb : zc2 .ge (W 15) (Int32.ofNat 60) = true := by rw [hC.1]; exact zcge (by omega) (by omega) (by omega)
    rw [hb, cond_true]
    have hs : nv (q_logs W t w v) 15 = 60 := by
      unfold nv
      rw [s1]
      decide
    refine ⟨by rw [la4_1, h.1, s1, hC.1, hs60], fun a c ha hc => ?_⟩
    rw [hs] at ha
    rw [hnx, hs, la4_c hc, s2 _ c (by omega) hc]
    by_cases h0 : a = 0
    · subst h0
      rw [if_pos (by omega), if_pos (by omega)]
      exact hrow c
    · rw [if_neg (by omega), if_neg (by omega)]
      have e1 : ((mv m (b + 40) 2 + 1) % 60 + 59 - a) % 60 = (mv m (b + 40) 2 + 59 - (a - 1)) % 60 := by omega
      have e2 : 60 - 1 - a + 1 = nv W 15 - 1 - (a - 1) := by omega
      rw [e1, e2]
      exact h.2 (a - 1) c (by omega) hc
end
section
/-! the class's machine at b holds the world W -/
/-- where a cell of the world lies in the class: the object, the slot (not for the log) -/
noncomputable def cmT (t c : Nat) : Nat × Nat :=
  if c = 0 then (10 + 7 * t, 3) else if c = 1 then (10 + 7 * t, 4) else if c = 2 then (14 + 7 * t, 0) else if c = 3 then (10 + 7 * t, 5) else if c = 4 then (10 + 7 * t, 6) else if c < 10 then (13 + 7 * t, c - 5) else if c = 10 then (14 + 7 * t, 5) else if c < 15 then (15 + 7 * t, c - 11) else if c = 15 then (14 + 7 * t, 6) else if c = 16 then (14 + 7 * t, 7) else if c = 17 then (14 + 7 * t, 9) else if c < 21 then (14 + 7 * t, c - 17) else if c = 21 then (10 + 7 * t, 7) else if c = 22 then (10 + 7 * t, 2) else if c < 55 then (16 + 7 * t, c - 23) else if (c - 55) % 2 = 0 then (11 + 7 * t, (c - 55) / 2) else (12 + 7 * t, (c - 55) / 2)
noncomputable def cm (k : Nat) : Nat × Nat :=
  if k < 9 then (3, k) else if k = 9 then (0, 5) else if k < 14 then (0, k - 4) else if k = 14 then (0, 12) else if k < 16 then (40, 1) else if k < 20 then (5 + (k - 16), 0) else if k < 24 then (5 + (k - 20), 1) else if k < 28 then (5 + (k - 24), 2) else if k < 32 then (5 + (k - 28), 3) else if k < 64 then (1, k - 32) else if k < 96 then (2, k - 64) else if k < 136 then (if (k - 96) % 2 = 0 then (38, (k - 96) / 2) else (39, (k - 96) / 2)) else if k < 376 then (41, k - 136) else cmT ((k - 376) / 103) ((k - 376) % 103)
/-- no two cells lie at one place -/
noncomputable def cmiT (r s : Nat) : Nat :=
  if r = 0 then (if s = 3 then 0 else if s = 4 then 1 else if s = 5 then 3 else if s = 6 then 4 else if s = 7 then 21 else 22) else if r = 1 then 55 + 2 * s else if r = 2 then 56 + 2 * s else if r = 3 then 5 + s else if r = 4 then (if s = 0 then 2 else if s = 5 then 10 else if s = 6 then 15 else if s = 7 then 16 else if s = 9 then 17 else 17 + s) else if r = 5 then 11 + s else 23 + s
noncomputable def cmi (o s : Nat) : Nat :=
  if o = 3 then s else if o = 0 then (if s = 5 then 9 else if s = 12 then 14 else s + 4) else if o = 40 then 15 else if o = 1 then 32 + s else if o = 2 then 64 + s else if o = 38 then 96 + 2 * s else if o = 39 then 97 + 2 * s else if o = 41 then 136 + s else if o < 9 then 16 + 4 * s + (o - 5) else 376 + 103 * ((o - 10) / 7) + cmiT ((o - 10) % 7) s
theorem cmi_ok : (List.range 788).all (fun k => cmi (cm k).1 (cm k).2 == k) = true := by decide +kernel
theorem zprod2 {p q : Nat × Nat} (h1 : p.1 = q.1) (h2 : p.2 = q.2) : p = q := by
  obtain ⟨a, b⟩ := p
  obtain ⟨c, d⟩ := q
  cases h1
  cases h2
  rfl
theorem cm_inj {j k : Nat} (hj : j < 788) (hk : k < 788) (h : cm j = cm k) : j = k := by
  have a := eq_of_beq (List.all_eq_true.mp cmi_ok j (List.mem_range.mpr hj))
  have b := eq_of_beq (List.all_eq_true.mp cmi_ok k (List.mem_range.mpr hk))
  rw [← a, ← b, h]
theorem cm_at {t c : Nat} (ht : t < 4) (hc : c < 103) : cm (376 + 103 * t + c) = cmT t c := by
  unfold cm
  have e1 : (376 + 103 * t + c - 376) / 103 = t := by omega
  have e2 : (376 + 103 * t + c - 376) % 103 = c := by omega
  rw [if_neg (by omega), if_neg (by omega), if_neg (by omega), if_neg (by omega), if_neg (by omega), if_neg (by omega), if_neg (by omega), if_neg (by omega), if_neg (by omega), if_neg (by omega), if_neg (by omega), if_neg (by omega), if_neg (by omega), e1, e2]
/-- a bit of a set -/
noncomputable def hbit (s : Int32) (k : Nat) : Prop := q_holds s k = Int32.ofNat 1
/-- which cells of a thread are looked at -/
noncomputable def cndT (W : Nat → Int32) (t c : Nat) : Prop := t < nv W 9 ∧ (11 ≤ c ∧ c ≤ 14 → c - 11 < nv W (376 + 103 * t + 10)) ∧ (18 ≤ c ∧ c ≤ 20 → W (376 + 103 * t + 2) = Int32.ofNat 1) ∧ (23 ≤ c ∧ c ≤ 54 → hbit (W (376 + 103 * t + 17)) (c - 23)) ∧ (55 ≤ c → (c - 55) / 2 < nv W (376 + 103 * t + 22))
noncomputable def cnd (W : Nat → Int32) (k : Nat) : Prop := k < 788 ∧ k ≠ 15 ∧ (k < 136 ∨ (376 ≤ k ∧ cndT W ((k - 376) / 103) ((k - 376) % 103)))
noncomputable def RC (m : Nat → Nat → Int32) (b : Nat) (W : Nat → Int32) : Prop := RLg m b W ∧ ∀ k, cnd W k → m (b + (cm k).1) (cm k).2 = W k
/-- a cell is written on both sides -/
theorem RC.put {m : Nat → Nat → Int32} {b : Nat} {W : Nat → Int32} {j : Nat} {x : Int32} (h : RC m b W) (hj : j < 788) (hj15 : j ≠ 15) (hj2 : j < 136 ∨ 376 ≤ j) (hC : WC W) (hcn : ∀ k, cnd (upd W j x) k → k ≠ j → cnd W k) (ho : (cm j).1 ≠ 40 ∧ (cm j).1 ≠ 41) : RC (zm2 m (b + (cm j).1) (cm j).2 x) b (upd W j x) := by
  obtain ⟨⟨h1, h2⟩, h3⟩ := h
  have e15 : nv (upd W j x) 15 = nv W 15 := nv_of (upd_ne _ _ (fun e => hj15 e.symm))
  have e2 : mv (zm2 m (b + (cm j).1) (cm j).2 x) (b + 40) 2 = mv m (b + 40) 2 := by
    unfold mv
    rw [zx_ne _ _ _ (by omega)]
  refine ⟨⟨by rw [zx_ne _ _ _ (by omega), upd_ne _ _ (fun e => hj15 e.symm)]; exact h1, fun a c ha hc => ?_⟩, fun k hk => ?_⟩
  · rw [e15] at ha
    have h60 := hC.2
    rw [e2, e15, zx_ne _ _ _ (by omega), h2 a c ha hc]
    rw [upd_ne _ _ (by omega)]
  · by_cases hkj : k = j
    · subst hkj
      rw [zx_at, upd_at]
    · rw [upd_ne _ _ hkj]
      have hne : ¬ (b + (cm k).1 = b + (cm j).1 ∧ (cm k).2 = (cm j).2) := by
        intro e
        exact hkj (cm_inj hk.1 hj (zprod2 (by omega) e.2))
      rw [zx_o _ _ hne]
      exact h3 k (hcn k hk hkj)
end
section
theorem hbit0 : ∀ {k : Nat}, k < 32 → ¬ hbit (Int32.ofNat 0) k := by
  have h : ∀ k, k < 32 → ¬ q_holds (Int32.ofNat 0) k = Int32.ofNat 1 := by decide +kernel
  exact fun {k} hk => h k hk
theorem cm_no : (List.range 788).all (fun k => k == 15 || (Nat.ble 136 k && Nat.blt k 376) || ((cm k).1 != 40 && (cm k).1 != 41)) = true := by decide +kernel
theorem cm_ne {k : Nat} (h : k < 788) (h15 : k ≠ 15) (h2 : k < 136 ∨ 376 ≤ k) : (cm k).1 ≠ 40 ∧ (cm k).1 ≠ 41 := by
  have a := List.all_eq_true.mp cm_no k (List.mem_range.mpr h)
  have b1 : (k == 15) = false := by
    cases hb : (k == 15) with
    | false => rfl
    | true => exact absurd (eq_of_beq hb) h15
  have b2 : (Nat.ble 136 k && Nat.blt k 376) = false := by
    cases hb : (Nat.ble 136 k && Nat.blt k 376) with
    | false => rfl
    | true =>
      rw [Bool.and_eq_true] at hb
      have c1 := Nat.le_of_ble_eq_true hb.1
      have c2 : k < 376 := Nat.le_of_ble_eq_true hb.2
      omega
  rw [b1, b2, Bool.false_or, Bool.false_or, Bool.and_eq_true] at a
  exact ⟨fun e => by rw [e] at a; exact absurd a.1 (by decide), fun e => by rw [e] at a; exact absurd a.2 (by decide)⟩
theorem cnd_of {W V : Nat → Int32} {k : Nat} (e9 : V 9 = W 9) (e : ∀ t, t < 4 → V (376 + 103 * t + 2) = W (376 + 103 * t + 2) ∧ V (376 + 103 * t + 10) = W (376 + 103 * t + 10) ∧ V (376 + 103 * t + 17) = W (376 + 103 * t + 17) ∧ V (376 + 103 * t + 22) = W (376 + 103 * t + 22)) (h : cnd V k) : cnd W k := by
  obtain ⟨h1, h2, h3⟩ := h
  refine ⟨h1, h2, ?_⟩
  rcases h3 with h3 | ⟨h3, h4⟩
  · exact Or.inl h3
  · obtain ⟨a, b, c, d⟩ := e ((k - 376) / 103) (by omega)
    refine Or.inr ⟨h3, ?_⟩
    unfold cndT at *
    rw [nv_of e9, nv_of b, a, c, nv_of d] at h4
    exact h4
theorem RC.log {m : Nat → Nat → Int32} {b : Nat} {W : Nat → Int32} {t w v : Int32} (h : RC m b W) (hC : WC W) (hn : mv m (b + 40) 2 < 60) : RC (x_logAdd m b (W 11) t w v) b (q_logs W t w v) := by
  refine ⟨RLg_add hC hn h.1, fun k hk => ?_⟩
  have hk1 : cnd W k := cnd_of (logs_fr hC (by omega) (by omega)) (fun u hu => ⟨logs_fr hC (by omega) (by omega), logs_fr hC (by omega) (by omega), logs_fr hC (by omega) (by omega), logs_fr hC (by omega) (by omega)⟩) hk
  obtain ⟨a1, a2, a3⟩ := hk1
  have a4 : k < 136 ∨ 376 ≤ k := by
    rcases a3 with a3 | a3
    · exact Or.inl a3
    · exact Or.inr a3.1
  have hne := cm_ne a1 a2 a4
  rw [logAdd_ne (by omega) (by omega), logs_fr hC a2 a4]
  exact h.2 k ⟨a1, a2, a3⟩
/-- a cell of a thread that no condition looks at -/
theorem RC.th {m : Nat → Nat → Int32} {b : Nat} {W : Nat → Int32} {t c : Nat} {x : Int32} (h : RC m b W) (hC : WC W) (ht : t < 4) (hc : c < 103) (h2 : c ≠ 2 ∧ c ≠ 10 ∧ c ≠ 17 ∧ c ≠ 22) : RC (zm2 m (b + (cmT t c).1) (cmT t c).2 x) b (upd W (376 + 103 * t + c) x) := by
  have h3 := h.put (j := 376 + 103 * t + c) (x := x) (by omega) (by omega) (Or.inr (by omega)) hC (fun k hk _ => cnd_of (upd_ne _ _ (by omega)) (fun u hu => ⟨(upd_ne _ _ (by omega)), (upd_ne _ _ (by omega)), (upd_ne _ _ (by omega)), (upd_ne _ _ (by omega))⟩) hk) (cm_ne (by omega) (by omega) (Or.inr (by omega)))
  rw [cm_at ht hc] at h3
  exact h3
/-- the cells of an end of a guess: conditions go, nothing comes -/
theorem RC.off {m : Nat → Nat → Int32} {b : Nat} {W : Nat → Int32} {t c : Nat} (h : RC m b W) (hC : WC W) (ht : t < 4) (h2 : c = 2 ∨ c = 10 ∨ c = 17) : RC (zm2 m (b + (cmT t c).1) (cmT t c).2 (Int32.ofNat 0)) b (upd W (376 + 103 * t + c) (Int32.ofNat 0)) := by
  have h3 := h.put (j := 376 + 103 * t + c) (x := Int32.ofNat 0) (by omega) (by omega) (Or.inr (by omega)) hC (fun k hk _ => ?_) (cm_ne (by omega) (by omega) (Or.inr (by omega)))
  · rw [cm_at ht (by omega)] at h3
    exact h3
  · obtain ⟨a1, a2, a3⟩ := hk
    refine ⟨a1, a2, ?_⟩
    rcases a3 with a3 | ⟨a3, a4⟩
    · exact Or.inl a3
    · refine Or.inr ⟨a3, ?_⟩
      obtain ⟨d1, d2, d3, d4, d5⟩ := a4
      have e9 : nv (upd W (376 + 103 * t + c) (Int32.ofNat 0)) 9 = nv W 9 := nv_of (upd_ne _ _ (by omega))
      have e22 : nv (upd W (376 + 103 * t + c) (Int32.ofNat 0)) (376 + 103 * ((k - 376) / 103) + 22) = nv W (376 + 103 * ((k - 376) / 103) + 22) := nv_of (upd_ne _ _ (by omega))
      rw [e9] at d1
      rw [e22] at d5
      refine ⟨d1, fun q => ?_, fun q => ?_, fun q => ?_, d5⟩
      · have q1 := d2 q
        by_cases hq : 376 + 103 * ((k - 376) / 103) + 10 = 376 + 103 * t + c
        · rw [hq] at q1
          unfold nv at q1
          rw [upd_at] at q1
          exact absurd q1 (by intro z; exact absurd z (Nat.not_lt_zero _))
        · rw [nv_of (upd_ne _ _ hq)] at q1
          exact q1
      · have q1 := d3 q
        by_cases hq : 376 + 103 * ((k - 376) / 103) + 2 = 376 + 103 * t + c
        · rw [hq, upd_at] at q1
          exact absurd q1 (by decide)
        · rw [upd_ne _ _ hq] at q1
          exact q1
      · have q1 := d4 q
        by_cases hq : 376 + 103 * ((k - 376) / 103) + 17 = 376 + 103 * t + c
        · rw [hq, upd_at] at q1
          exact absurd q1 (hbit0 (by omega))
        · rw [upd_ne _ _ hq] at q1
          exact q1
end
section
theorem RC.cell {m : Nat → Nat → Int32} {b : Nat} {W : Nat → Int32} {t c : Nat} (h : RC m b W) (ht4 : t < 4) (hc : c < 103) (hcn : cndT W t c) : m (b + (cmT t c).1) (cmT t c).2 = W (376 + 103 * t + c) := by
  have e1 : (376 + 103 * t + c - 376) / 103 = t := by omega
  have e2 : (376 + 103 * t + c - 376) % 103 = c := by omega
  have h1 := h.2 (376 + 103 * t + c) ⟨by omega, by omega, Or.inr ⟨by omega, by rw [e1, e2]; exact hcn⟩⟩
  rw [cm_at ht4 hc] at h1
  exact h1
theorem RC.glob {m : Nat → Nat → Int32} {b : Nat} {W : Nat → Int32} {k : Nat} (h : RC m b W) (hk : k < 136) (h15 : k ≠ 15) : m (b + (cm k).1) (cm k).2 = W k := h.2 k ⟨by omega, h15, Or.inl hk⟩
/-- cells without a condition -/
theorem cnd0 {W : Nat → Int32} {t c : Nat} (ht : t < nv W 9) (hc : c < 11 ∨ (15 ≤ c ∧ c ≤ 17) ∨ c = 21 ∨ c = 22) : cndT W t c := ⟨ht, fun q => by omega, fun q => by omega, fun q => by omega, fun q => by omega⟩
theorem RC.ends {m : Nat → Nat → Int32} {b : Nat} {W : Nat → Int32} {t : Nat} (h : RC m b W) (hC : WC W) (ht : t < 4) : RC (x_close m b t) b (q_ends W t) := by
  have a1 := h.off (c := 2) hC ht (by omega)
  have c1 := WC_of (V := upd W (376 + 103 * t + 2) (Int32.ofNat 0)) (upd_ne _ _ (by omega)) hC
  have a2 := a1.off (c := 10) c1 ht (by omega)
  have c2 := WC_of (V := upd (upd W (376 + 103 * t + 2) (Int32.ofNat 0)) (376 + 103 * t + 10) (Int32.ofNat 0)) (upd_ne _ _ (by omega)) c1
  have a3 := a2.th (c := 15) (x := Int32.ofNat 0) c2 ht (by omega) (by omega)
  have c3 := WC_of (V := upd (upd (upd W (376 + 103 * t + 2) (Int32.ofNat 0)) (376 + 103 * t + 10) (Int32.ofNat 0)) (376 + 103 * t + 15) (Int32.ofNat 0)) (upd_ne _ _ (by omega)) c2
  have a4 := a3.th (c := 16) (x := Int32.ofNat 0) c3 ht (by omega) (by omega)
  have c4 := WC_of (V := upd (upd (upd (upd W (376 + 103 * t + 2) (Int32.ofNat 0)) (376 + 103 * t + 10) (Int32.ofNat 0)) (376 + 103 * t + 15) (Int32.ofNat 0)) (376 + 103 * t + 16) (Int32.ofNat 0)) (upd_ne _ _ (by omega)) c3
  have a5 := a4.off (c := 17) c4 ht (by omega)
  have e : x_close m b t = zm2 (zm2 (zm2 (zm2 (zm2 m (b + (cmT t 2).1) (cmT t 2).2 (Int32.ofNat 0)) (b + (cmT t 10).1) (cmT t 10).2 (Int32.ofNat 0)) (b + (cmT t 15).1) (cmT t 15).2 (Int32.ofNat 0)) (b + (cmT t 16).1) (cmT t 16).2 (Int32.ofNat 0)) (b + (cmT t 17).1) (cmT t 17).2 (Int32.ofNat 0) := by
    have e1 : b + (14 + 7 * t) = b + 14 + 7 * t := by omega
    rw [show cmT t 2 = (14 + 7 * t, 0) from rfl, show cmT t 10 = (14 + 7 * t, 5) from rfl, show cmT t 15 = (14 + 7 * t, 6) from rfl, show cmT t 16 = (14 + 7 * t, 7) from rfl, show cmT t 17 = (14 + 7 * t, 9) from rfl]
    dsimp only
    rw [e1]
    rfl
  rw [e]
  exact a5
/-- trust goes down alike -/
theorem lose_eq {a d : Nat} (ha : a ≤ 15) (hd : d ≤ 15) : (bif zc2 .le (Int32.ofNat a) (Int32.ofNat d) then Int32.ofNat 0 else Int32.ofNat a - Int32.ofNat d) = if Int32.ofNat 0 < Int32.ofNat a - Int32.ofNat d then Int32.ofNat a - Int32.ofNat d else Int32.ofNat 0 := by
  have h : ∀ a, a < 16 → ∀ d, d < 16 → (bif zc2 .le (Int32.ofNat a) (Int32.ofNat d) then Int32.ofNat 0 else Int32.ofNat a - Int32.ofNat d) = if Int32.ofNat 0 < Int32.ofNat a - Int32.ofNat d then Int32.ofNat a - Int32.ofNat d else Int32.ofNat 0 := by decide +kernel
  exact h a (by omega) d (by omega)
end
section
/-- one more cell of a thread, in the class's words -/
theorem RC.thS {m : Nat → Nat → Int32} {b : Nat} {W : Nat → Int32} {t c o s : Nat} {x : Int32} (h : RC m b W) (hC : WC W) (ht : t < 4) (hc : c < 103) (h2 : c ≠ 2 ∧ c ≠ 10 ∧ c ≠ 17 ∧ c ≠ 22) (hm : cmT t c = (o + 7 * t, s)) : RC (zm2 m (b + o + 7 * t) s x) b (upd W (376 + 103 * t + c) x) := by
  have h3 := h.th (x := x) hC ht hc h2
  rw [hm] at h3
  dsimp only at h3
  rw [show b + (o + 7 * t) = b + o + 7 * t by omega] at h3
  exact h3
theorem RC.cellS {m : Nat → Nat → Int32} {b : Nat} {W : Nat → Int32} {t c o s : Nat} (h : RC m b W) (ht4 : t < 4) (hc : c < 103) (hcn : cndT W t c) (hm : cmT t c = (o + 7 * t, s)) : m (b + o + 7 * t) s = W (376 + 103 * t + c) := by
  have h3 := h.cell ht4 hc hcn
  rw [hm] at h3
  dsimp only at h3
  rw [show b + (o + 7 * t) = b + o + 7 * t by omega] at h3
  exact h3
theorem cmT_5 {t y : Nat} (hy : y < 5) : cmT t (5 + y) = (13 + 7 * t, y) := by
  match y, hy with
  | 0, _ => rfl
  | 1, _ => rfl
  | 2, _ => rfl
  | 3, _ => rfl
  | 4, _ => rfl
end
section
theorem RC.fall {m : Nat → Nat → Int32} {b : Nat} {W : Nat → Int32} {t y a d : Nat} (h : RC m b W) (hw : WG W) (ht : t < nv W 9) (hy : y < 5) (hn : mv m (b + 40) 2 < 60) (hg : W (376 + 103 * t + 2) = Int32.ofNat 1) (hl : 1 ≤ nv W (376 + 103 * t + 10)) (ha : W (20 + nv W (376 + 103 * t + 11)) = Int32.ofNat a) (ha15 : a ≤ 15) (hd : W 6 = Int32.ofNat d) (hd15 : d ≤ 15) : RC (x_fall m b t y).2 b (q_falls W t y) := by
  have hC := hw.C
  have h4 := hw.N4
  have ht4 : t < 4 := by omega
  have hL := hw.L t ht4
  -- what is read on both sides
  have v18 : m (b + 14 + 7 * t) 1 = W (376 + 103 * t + 18) := h.cellS ht4 (by omega) ⟨ht, fun q => by omega, fun _ => hg, fun q => by omega, fun q => by omega⟩ rfl
  have v19 : m (b + 14 + 7 * t) 2 = W (376 + 103 * t + 19) := h.cellS ht4 (by omega) ⟨ht, fun q => by omega, fun _ => hg, fun q => by omega, fun q => by omega⟩ rfl
  have v3 : m (b + 10 + 7 * t) 5 = W (376 + 103 * t + 3) := h.cellS ht4 (by omega) (cnd0 ht (by omega)) rfl
  have vy : m (b + 13 + 7 * t) y = W (376 + 103 * t + (5 + y)) := h.cellS ht4 (by omega) (cnd0 ht (by omega)) (cmT_5 hy)
  have vL : m (b + 15 + 7 * t) 0 = W (376 + 103 * t + 11) := h.cellS ht4 (by omega) ⟨ht, fun _ => by omega, fun q => by omega, fun q => by omega, fun q => by omega⟩ rfl
  have eL : mv m (b + 15 + 7 * t) 0 = nv W (376 + 103 * t + 11) := by unfold mv nv; rw [vL]
  have v6 : m (b + 3) 6 = W 6 := h.glob (k := 6) (by omega) (by omega)
  have v11 : m b 7 = W 11 := h.glob (k := 11) (by omega) (by omega)
  have vT : m (b + 5 + nv W (376 + 103 * t + 11)) 1 = W (20 + nv W (376 + 103 * t + 11)) := by
    have q := h.glob (k := 20 + nv W (376 + 103 * t + 11)) (by omega) (by omega)
    have e : cm (20 + nv W (376 + 103 * t + 11)) = (5 + nv W (376 + 103 * t + 11), 1) := lt4 (P := fun l => cm (20 + l) = (5 + l, 1)) rfl rfl rfl rfl hL.2
    rw [e] at q
    dsimp only at q
    rw [← Nat.add_assoc] at q
    exact q
  -- the five cells of the thread
  have r1 := h.thS (c := 0) (o := 10) (s := 3) (x := W (376 + 103 * t + 18)) hC ht4 (by omega) (by omega) rfl
  have w1 := WC_of (V := upd W (376 + 103 * t + 0) (W (376 + 103 * t + 18))) (upd_ne _ _ (by omega)) hC
  have r2 := r1.thS (c := 1) (o := 10) (s := 4) (x := W (376 + 103 * t + 19)) w1 ht4 (by omega) (by omega) rfl
  have w2 := WC_of (V := upd (upd W (376 + 103 * t + 0) (W (376 + 103 * t + 18))) (376 + 103 * t + 1) (W (376 + 103 * t + 19))) (upd_ne _ _ (by omega)) w1
  have r3 := r2.thS (c := 21) (o := 10) (s := 7) (x := Int32.ofNat 0) w2 ht4 (by omega) (by omega) rfl
  have w3 := WC_of (V := upd (upd (upd W (376 + 103 * t + 0) (W (376 + 103 * t + 18))) (376 + 103 * t + 1) (W (376 + 103 * t + 19))) (376 + 103 * t + 21) (Int32.ofNat 0)) (upd_ne _ _ (by omega)) w2
  have r4 := r3.thS (c := 3) (o := 10) (s := 5) (x := W (376 + 103 * t + 3) + Int32.ofNat 1) w3 ht4 (by omega) (by omega) rfl
  have w4 := WC_of (V := upd (upd (upd (upd W (376 + 103 * t + 0) (W (376 + 103 * t + 18))) (376 + 103 * t + 1) (W (376 + 103 * t + 19))) (376 + 103 * t + 21) (Int32.ofNat 0)) (376 + 103 * t + 3) (W (376 + 103 * t + 3) + Int32.ofNat 1)) (upd_ne _ _ (by omega)) w3
  have r5 := r4.thS (c := 5 + y) (o := 13) (s := y) (x := W (376 + 103 * t + (5 + y)) + Int32.ofNat 1) w4 ht4 (by omega) (by omega) (cmT_5 hy)
  have w5 := WC_of (V := upd (upd (upd (upd (upd W (376 + 103 * t + 0) (W (376 + 103 * t + 18))) (376 + 103 * t + 1) (W (376 + 103 * t + 19))) (376 + 103 * t + 21) (Int32.ofNat 0)) (376 + 103 * t + 3) (W (376 + 103 * t + 3) + Int32.ofNat 1)) (376 + 103 * t + (5 + y)) (W (376 + 103 * t + (5 + y)) + Int32.ofNat 1)) (upd_ne _ _ (by omega)) w4
  have eW : q_falls W t y = q_logs (q_ends (upd (upd (upd (upd (upd (upd W (376 + 103 * t + 0) (W (376 + 103 * t + 18))) (376 + 103 * t + 1) (W (376 + 103 * t + 19))) (376 + 103 * t + 21) (Int32.ofNat 0)) (376 + 103 * t + 3) (W (376 + 103 * t + 3) + Int32.ofNat 1)) (376 + 103 * t + (5 + y)) (W (376 + 103 * t + (5 + y)) + Int32.ofNat 1)) (20 + nv W (376 + 103 * t + 11)) (if Int32.ofNat 0 < W (20 + nv W (376 + 103 * t + 11)) - W 6 then W (20 + nv W (376 + 103 * t + 11)) - W 6 else Int32.ofNat 0)) t) (Int32.ofNat t) (Int32.ofNat 2) (Int32.ofNat y) := by
    unfold q_falls
    simp (disch := omega) only [q_of, upd_ne]
  have eM : (x_fall m b t y).2 = x_logAdd (x_close (x_lose (zm2 (zm2 (zm2 (zm2 (zm2 m (b + 10 + 7 * t) 3 (m (b + 14 + 7 * t) 1)) (b + 10 + 7 * t) 4 (m (b + 14 + 7 * t) 2)) (b + 10 + 7 * t) 7 (Int32.ofNat 0)) (b + 10 + 7 * t) 5 (m (b + 10 + 7 * t) 5 + Int32.ofNat 1)) (b + 13 + 7 * t) y (m (b + 13 + 7 * t) y + Int32.ofNat 1)) b (mv m (b + 15 + 7 * t) 0) (m (b + 3) 6)) b t) b (m b 7) (Int32.ofNat t) (Int32.ofNat 2) (Int32.ofNat y) := by
    have hlm : mv m (b + 15 + 7 * t) 0 < 4 := by rw [eL]; exact hL.2
    unfold x_fall
    dsimp only
    simp (disch := omega) only [zx_ne, zx_nk, close_ne, lose_ne]
  rw [eM, eW, eL, v18, v19, v3, vy, v6, v11]
  -- trust
  have hj : 20 + nv W (376 + 103 * t + 11) < 24 := by have := hL.2; omega
  have e20 : cm (20 + nv W (376 + 103 * t + 11)) = (5 + nv W (376 + 103 * t + 11), 1) := lt4 (P := fun l => cm (20 + l) = (5 + l, 1)) rfl rfl rfl rfl hL.2
  have r6 := r5.put (j := 20 + nv W (376 + 103 * t + 11)) (x := if Int32.ofNat 0 < W (20 + nv W (376 + 103 * t + 11)) - W 6 then W (20 + nv W (376 + 103 * t + 11)) - W 6 else Int32.ofNat 0) (by omega) (by omega) (Or.inl (by omega)) w5 (fun k hk _ => cnd_of (upd_ne _ _ (by omega)) (fun u hu => ⟨upd_ne _ _ (by omega), upd_ne _ _ (by omega), upd_ne _ _ (by omega), upd_ne _ _ (by omega)⟩) hk) (by rw [e20]; exact ⟨by show 5 + nv W (376 + 103 * t + 11) ≠ 40; omega, by show 5 + nv W (376 + 103 * t + 11) ≠ 41; omega⟩)
  have w6 := WC_of (V := upd (upd (upd (upd (upd (upd W (376 + 103 * t + 0) (W (376 + 103 * t + 18))) (376 + 103 * t + 1) (W (376 + 103 * t + 19))) (376 + 103 * t + 21) (Int32.ofNat 0)) (376 + 103 * t + 3) (W (376 + 103 * t + 3) + Int32.ofNat 1)) (376 + 103 * t + (5 + y)) (W (376 + 103 * t + (5 + y)) + Int32.ofNat 1)) (20 + nv W (376 + 103 * t + 11)) (if Int32.ofNat 0 < W (20 + nv W (376 + 103 * t + 11)) - W 6 then W (20 + nv W (376 + 103 * t + 11)) - W 6 else Int32.ofNat 0)) (upd_ne _ _ (by omega)) w5
  rw [e20] at r6
  dsimp only at r6
  rw [show b + (5 + nv W (376 + 103 * t + 11)) = b + 5 + nv W (376 + 103 * t + 11) from (Nat.add_assoc _ _ _).symm] at r6
  have el : ∀ M : Nat → Nat → Int32, M (b + 5 + nv W (376 + 103 * t + 11)) 1 = W (20 + nv W (376 + 103 * t + 11)) → x_lose M b (nv W (376 + 103 * t + 11)) (W 6) = zm2 M (b + 5 + nv W (376 + 103 * t + 11)) 1 (if Int32.ofNat 0 < W (20 + nv W (376 + 103 * t + 11)) - W 6 then W (20 + nv W (376 + 103 * t + 11)) - W 6 else Int32.ofNat 0) := by
    intro M hM
    unfold x_lose
    rw [hM, ha, hd, ← lose_eq ha15 hd15]
    cases zc2 .le (Int32.ofNat a) (Int32.ofNat d) <;> rfl
  rw [el _ (by rw [zx_ne _ _ _ (by omega), zx_ne _ _ _ (by omega), zx_ne _ _ _ (by omega), zx_ne _ _ _ (by omega), zx_ne _ _ _ (by omega)]; exact vT)]
  have r7 := r6.ends w6 ht4
  have ew : ∀ V : Nat → Int32, WC V → WC (q_ends V t) := fun V hV => WC_of (by simp (disch := omega) only [q_ends, upd_ne]) hV
  have w7 := ew _ w6
  have r8 := r7.log (t := Int32.ofNat t) (w := Int32.ofNat 2) (v := Int32.ofNat y) w7 (zxb (by simp (disch := omega) only [close_ne, zx_ne]) hn)
  have e11 : ∀ V : Nat → Int32, q_ends V t 11 = V 11 := fun V => by simp (disch := omega) only [q_ends, upd_ne]
  rw [e11] at r8
  rw [upd_ne _ _ (by omega), upd_ne _ _ (by omega), upd_ne _ _ (by omega), upd_ne _ _ (by omega), upd_ne _ _ (by omega), upd_ne _ _ (by omega)] at r8
  exact r8
end
section
/-! whom a read or a write clashes with: alike -/
noncomputable def GR (W : Nat → Int32) : Prop := ∀ t, t < 4 → W (376 + 103 * t + 2) = Int32.ofNat 0 → W (376 + 103 * t + 15) = Int32.ofNat 0 ∧ W (376 + 103 * t + 16) = Int32.ofNat 0 ∧ W (376 + 103 * t + 17) = Int32.ofNat 0
theorem orz (s : Int32) : s ||| Int32.ofNat 0 = s := Int32.or_zero
theorem clash_eq {m : Nat → Nat → Int32} {b : Nat} {W : Nat → Int32} {x u r : Int32} (h : RC m b W) (hw : WG W) (hG : GR W) : ∀ (n : Nat) (s : Int32) (k : Nat), k + n = nv W 9 → xl_holders m b x u r n s k = l_clash W u x r n s k := by
  intro n
  induction n with
  | zero => intro s k _; rfl
  | succ n ih =>
    intro s k hk
    have h4 := hw.N4
    have hk4 : k < 4 := by omega
    have hkN : k < nv W 9 := by omega
    have g0 : m (b + 14 + 7 * k) 0 = W (376 + 103 * k + 2) := h.cellS hk4 (by omega) (cnd0 hkN (by omega)) rfl
    have g6 : m (b + 14 + 7 * k) 6 = W (376 + 103 * k + 15) := h.cellS hk4 (by omega) (cnd0 hkN (by omega)) rfl
    have g7 : m (b + 14 + 7 * k) 7 = W (376 + 103 * k + 16) := h.cellS hk4 (by omega) (cnd0 hkN (by omega)) rfl
    have q16 : q_of W k 16 = W (376 + 103 * k + 16) := rfl
    have q15 : q_of W k 15 = W (376 + 103 * k + 15) := rfl
    rw [xl_holders, l_clash, g0, g6, g7, q16, q15, orz, orz, ih _ _ (by omega), ih _ _ (by omega)]
    have a1 := (hw.2 k hk4).1
    by_cases hz : nv W (376 + 103 * k + 2) = 0
    · have e2 : W (376 + 103 * k + 2) = Int32.ofNat 0 := by rw [a1.1, hz]
      obtain ⟨e15, e16, -⟩ := hG k hk4 e2
      have z1 : zc1 .eq (Int32.ofNat 0) = true := by decide
      have z2 : zc1 .eq (Int32.ofNat 0 &&& x) = true := by
        have : Int32.ofNat 0 &&& x = Int32.ofNat 0 := Int32.zero_and
        rw [this]; decide
      rw [e2, e15, e16, z1, cond_true, cond_true, orz, z2, cond_true]
    · have e1 : nv W (376 + 103 * k + 2) = 1 := by have := a1.2.2; omega
      have e2 : W (376 + 103 * k + 2) = Int32.ofNat 1 := by rw [a1.1, e1]
      have z1 : zc1 .eq (Int32.ofNat 1) = false := by decide
      rw [e2, z1, cond_false, cond_false, Int32.or_comm (W (376 + 103 * k + 15)) (W (376 + 103 * k + 16))]
theorem holders_eq {m : Nat → Nat → Int32} {b : Nat} {W : Nat → Int32} {x u r : Int32} (h : RC m b W) (hw : WG W) (hG : GR W) : x_holders m b x u r = q_clash W u x r := by
  have e5 : mv m b 5 = nv W 9 := by
    have q := h.glob (k := 9) (by omega) (by omega)
    unfold mv nv
    rw [← q]
    rfl
  unfold x_holders q_clash
  rw [e5]
  exact clash_eq h hw hG _ _ _ (by omega)
end
section
theorem block_eq {m : Nat → Nat → Int32} {b : Nat} {W : Nat → Int32} {w : Int32} (h : RC m b W) (hw : WG W) : x_blockBit m b w = q_blockOf W w := by
  have g : m (b + 3) 0 = W 0 := h.glob (k := 0) (by omega) (by omega)
  have hz := hw.1.1
  unfold x_blockBit q_blockOf
  rw [g, hz.1]
  have e : (if Int32.ofNat 1 < Int32.ofNat (nv W 0) then Int32.ofNat (nv W 0) else Int32.ofNat 1) = Int32.ofNat (nv W 0) := by
    have h1 := hz.2.1
    have h2 := hz.2.2
    generalize nv W 0 = n at h1 h2
    have key : ∀ n, n < 9 → 1 ≤ n → (if Int32.ofNat 1 < Int32.ofNat n then Int32.ofNat n else Int32.ofNat 1) = Int32.ofNat n := by decide +kernel
    exact key n (by omega) h1
  rw [e]
theorem GR.put {W : Nat → Int32} (h : GR W) {k : Nat} (x : Int32) (hk : ∀ t, t < 4 → k ≠ 376 + 103 * t + 2 ∧ k ≠ 376 + 103 * t + 15 ∧ k ≠ 376 + 103 * t + 16 ∧ k ≠ 376 + 103 * t + 17) : GR (upd W k x) := by
  intro t ht
  obtain ⟨a, b, c, d⟩ := hk t ht
  rw [upd_ne _ _ (fun e => a e.symm), upd_ne _ _ (fun e => b e.symm), upd_ne _ _ (fun e => c e.symm), upd_ne _ _ (fun e => d e.symm)]
  exact h t ht
theorem GR.of {W V : Nat → Int32} (h : GR W) (e : ∀ t, t < 4 → V (376 + 103 * t + 2) = W (376 + 103 * t + 2) ∧ V (376 + 103 * t + 15) = W (376 + 103 * t + 15) ∧ V (376 + 103 * t + 16) = W (376 + 103 * t + 16) ∧ V (376 + 103 * t + 17) = W (376 + 103 * t + 17)) : GR V := by
  intro t ht
  obtain ⟨a, b, c, d⟩ := e t ht
  rw [a, b, c, d]
  exact h t ht
theorem GR.logs {W : Nat → Int32} (h : GR W) (hC : WC W) (a c v : Int32) : GR (q_logs W a c v) := h.of (fun t ht => ⟨logs_fr hC (by omega) (by omega), logs_fr hC (by omega) (by omega), logs_fr hC (by omega) (by omega), logs_fr hC (by omega) (by omega)⟩)
theorem GR.ends {W : Nat → Int32} (h : GR W) {t : Nat} (ht : t < 4) : GR (q_ends W t) := by
  intro u hu
  by_cases hut : u = t
  · subst hut
    intro _
    unfold q_ends
    refine ⟨?_, ?_, ?_⟩
    · rw [upd_ne _ _ (by omega), upd_ne _ _ (by omega), upd_at]
    · rw [upd_ne _ _ (by omega), upd_at]
    · rw [upd_at]
  · have e : ∀ c, c < 103 → q_ends W t (376 + 103 * u + c) = W (376 + 103 * u + c) := by
      intro c hc
      unfold q_ends
      rw [upd_ne _ _ (by omega), upd_ne _ _ (by omega), upd_ne _ _ (by omega), upd_ne _ _ (by omega), upd_ne _ _ (by omega)]
    rw [e 2 (by omega), e 15 (by omega), e 16 (by omega), e 17 (by omega)]
    exact h u hu
theorem GR.falls {W : Nat → Int32} (h : GR W) (hw : WG W) {t y : Nat} (ht : t < 4) (hy : y < 5) : GR (q_falls W t y) := by
  have hl := (hw.L t ht).2
  unfold q_falls
  apply GR.logs _ (WC_of (by simp (disch := omega) only [q_ends, upd_ne]) hw.C)
  apply GR.ends _ ht
  apply GR.put _ _ (fun u hu => by omega)
  apply GR.put _ _ (fun u hu => by omega)
  apply GR.put _ _ (fun u hu => by omega)
  apply GR.put _ _ (fun u hu => by omega)
  apply GR.put _ _ (fun u hu => by omega)
  exact h.put _ (fun u hu => by omega)
end
section
/-! all with whom it clashes fall, on both sides -/
theorem zand1 (x : Int32) : x &&& Int32.ofNat 1 = Int32.ofNat 0 ∨ x &&& Int32.ofNat 1 = Int32.ofNat 1 := by
  have h : (x &&& Int32.ofNat 1).toBitVec.toNat ≤ 1 := by
    rw [Int32.toBitVec_and, BitVec.toNat_and]
    exact Nat.and_le_right
  have key : x &&& Int32.ofNat 1 = Int32.ofNat ((x &&& Int32.ofNat 1).toBitVec.toNat) := by
    apply Int32.toInt_inj.mp
    rw [zoN (by omega)]
    exact BitVec.toInt_eq_toNat_of_lt (by omega)
  match hn : (x &&& Int32.ofNat 1).toBitVec.toNat, h with
  | 0, _ => left; rw [key, hn]
  | 1, _ => right; rw [key, hn]
theorem bit_eq (s : Int32) (k : Nat) : zc1 .eq ((s.toUInt32 >>> ((Int32.ofNat k).toUInt32 &&& Int32.toUInt32 31)).toInt32 &&& Int32.ofNat 1) = zc1 .eq (q_holds s k) := by
  unfold q_holds
  rcases zand1 ((s.toUInt32 >>> ((Int32.ofNat k).toUInt32 &&& Int32.toUInt32 31)).toInt32) with e | e
  · rw [e]; decide
  · rw [e]; decide
/-- guessing: something is left out -/
noncomputable def GL (W : Nat → Int32) : Prop := ∀ t, t < 4 → W (376 + 103 * t + 2) = Int32.ofNat 1 → 1 ≤ nv W (376 + 103 * t + 10)
/-- trust and how far it goes down -/
noncomputable def TB (W : Nat → Int32) : Prop := ok W 6 0 15 ∧ ∀ l, l < 4 → ok W (20 + l) 0 15
theorem falls_2 {W : Nat → Int32} (h : WG W) {o y t c : Nat} (ho : o < 4) (hy : y < 5) (ht : t < 4) (hot : o ≠ t) (hc : c < 103) : q_falls W o y (376 + 103 * t + c) = W (376 + 103 * t + c) := by
  have := (h.L o ho).2
  refine falls_fr ho hy h.C this (by omega) (by omega) (by omega) (fun d e hd => ?_)
  unfold fT at hd
  omega
theorem falls_22' {W : Nat → Int32} (h : WG W) {t y : Nat} (ht : t < 4) (hy : y < 5) : q_falls W t y (376 + 103 * t + 2) = Int32.ofNat 0 := by
  have hl := (h.L t ht).2
  unfold q_falls
  rw [logs_fr (WC_of (by simp (disch := omega) only [q_ends, upd_ne]) h.C) (by omega) (by omega)]
  unfold q_ends
  rw [upd_ne _ _ (by omega), upd_ne _ _ (by omega), upd_ne _ _ (by omega), upd_ne _ _ (by omega), upd_at]
theorem GL.falls {W : Nat → Int32} (h : GL W) (hw : WG W) {t y : Nat} (ht : t < 4) (hy : y < 5) : GL (q_falls W t y) := by
  intro u hu hg
  by_cases hut : t = u
  · subst hut
    rw [falls_22' hw ht hy] at hg
    exact absurd hg (by decide)
  · rw [falls_2 hw ht hy hu hut (by omega)] at hg
    rw [nv_of (falls_2 hw ht hy hu hut (by omega))]
    exact h u hu hg
theorem falls_6 {W : Nat → Int32} (h : WG W) {t y k : Nat} (ht : t < 4) (hy : y < 5) (hk : k < 15) : q_falls W t y k = W k := by
  have := (h.L t ht).2
  exact falls_fr ht hy h.C this (by omega) (by omega) (by omega) (fun c e => absurd e (by omega))
theorem lose_b {a d : Nat} (ha : a ≤ 15) (hd : d ≤ 15) : ∃ n, n ≤ 15 ∧ (if Int32.ofNat 0 < Int32.ofNat a - Int32.ofNat d then Int32.ofNat a - Int32.ofNat d else Int32.ofNat 0) = Int32.ofNat n := by
  have h : ∀ a, a < 16 → ∀ d, d < 16 → (if Int32.ofNat 0 < Int32.ofNat a - Int32.ofNat d then Int32.ofNat a - Int32.ofNat d else Int32.ofNat 0) = Int32.ofNat (a - d) := by decide +kernel
  exact ⟨a - d, by omega, h a (by omega) d (by omega)⟩
theorem TB.falls {W : Nat → Int32} (h : TB W) (hw : WG W) {t y : Nat} (ht : t < 4) (hy : y < 5) : TB (q_falls W t y) := by
  refine ⟨h.1.of (falls_6 hw ht hy (by omega)), fun l hl => ?_⟩
  have hL := (hw.L t ht).2
  by_cases e : l = nv W (376 + 103 * t + 11)
  · have hv : q_falls W t y (20 + l) = if Int32.ofNat 0 < W (20 + l) - W 6 then W (20 + l) - W 6 else Int32.ofNat 0 := by
      rw [e]
      unfold q_falls
      rw [logs_fr (WC_of (by simp (disch := omega) only [q_ends, upd_ne]) hw.C) (by omega) (by omega)]
      unfold q_ends
      rw [upd_ne _ _ (by omega), upd_ne _ _ (by omega), upd_ne _ _ (by omega), upd_ne _ _ (by omega), upd_ne _ _ (by omega), upd_at]
      simp (disch := omega) only [upd_ne]
    obtain ⟨n, n1, n2⟩ := lose_b (h.2 l hl).2.2 h.1.2.2
    rw [← (h.2 l hl).1, ← h.1.1] at n2
    exact ok.is (hv.trans n2) (by omega) n1 (by omega)
  · refine (h.2 l hl).of (falls_fr ht hy hw.C hL (by omega) (by omega) (by omega) (fun c q => absurd q (by omega)))
/-- what a world keeps beside its order -/
noncomputable def W2 (W : Nat → Int32) : Prop := WG W ∧ GR W ∧ GL W ∧ TB W
theorem W2.falls {W : Nat → Int32} (h : W2 W) {t y : Nat} (ht : t < 4) (hy : y < 5) : W2 (q_falls W t y) := ⟨h.1.falls ht hy, h.2.1.falls h.1 ht hy, h.2.2.1.falls h.1 ht hy, h.2.2.2.falls h.1 ht hy⟩
theorem RC.fall2 {m : Nat → Nat → Int32} {b : Nat} {W : Nat → Int32} {t y : Nat} (h : RC m b W) (hw : W2 W) (hc : CG m b) (ht : t < nv W 9) (hy : y < 5) (hg : W (376 + 103 * t + 2) = Int32.ofNat 1) : RC (x_fall m b t y).2 b (q_falls W t y) := by
  have h4 := hw.1.N4
  have hL := (hw.1.L t (by omega)).2
  have hT := hw.2.2.2.2 (nv W (376 + 103 * t + 11)) hL
  exact h.fall hw.1 ht hy hc.n60 hg (hw.2.2.1 t (by omega) hg) hT.1 hT.2.2 hw.2.2.2.1.1 hw.2.2.2.1.2.2
/-- the loop of falls, up to what is done behind it -/
theorem reachL_rel {b t w n5 : Nat} {v x r g s : Int32} {tt : Int32} (hn : n5 ≤ 4) : ∀ (n k : Nat) (m : Nat → Nat → Int32) (W : Nat → Int32), k + n = n5 → RC m b W → W2 W → CG m b → nv W 9 = n5 → (∀ j, k ≤ j → j < n5 → zc1 .eq (q_holds s j) = false → W (376 + 103 * j + 2) = Int32.ofNat 1) → ∃ m', xl_reachL b t w v x r g s n5 n k m = x_reachC m' b t w v x r g s ∧ RC m' b (l_clears tt s n5 n k W).2 ∧ W2 (l_clears tt s n5 n k W).2 ∧ CG m' b := by
  intro n
  induction n with
  | zero => intro k m W hk h hw hc h9 hs; exact ⟨m, rfl, h, hw, hc⟩
  | succ n ih =>
    intro k m W hk h hw hc h9 hs
    rw [xl_reachL, l_clears, bit_eq]
    cases hb : zc1 .eq (q_holds s k) with
    | true =>
      simp only [cond_true]
      exact ih _ _ _ (by omega) h hw hc h9 (fun j a b c => hs j (by omega) b c)
    | false =>
      simp only [cond_false]
      have hg := hs k (by omega) (by omega) hb
      have h9' : nv (q_falls W k 0) 9 = n5 := by rw [nv_of (falls_6 hw.1 (by omega) (by omega) (by omega))]; exact h9
      refine ih _ _ _ (by omega) (h.fall2 hw hc (by omega) (by omega) hg) (hw.falls (by omega) (by omega)) (hc.fall (by omega) (by omega)) h9' (fun j a b c => ?_)
      rw [falls_2 hw.1 (by omega) (by omega) (by omega) (by omega) (by omega)]
      exact hs j (by omega) b c
end
section
/-! the set of a clash: its bits -/
noncomputable def cf (W : Nat → Int32) (u x r : Int32) (k : Nat) : Bool := !(zc2 .eq (Int32.ofNat k) u) && !(bif zc1 .eq r then zc1 .eq ((q_of W k 16 ||| Int32.ofNat 0) &&& x) else zc1 .eq ((q_of W k 16 ||| q_of W k 15) &&& x))
theorem clash_step (W : Nat → Int32) (u x r : Int32) (n : Nat) (s : Int32) (k : Nat) : l_clash W u x r (n + 1) s k = l_clash W u x r n (bif cf W u x r k then s ||| (Int32.ofNat 1 <<< (Int32.ofNat k &&& 31)) else s) (k + 1) := by
  rw [l_clash, orz]
  unfold cf
  cases zc1 .eq r <;> cases zc2 .eq (Int32.ofNat k) u <;> cases zc1 .eq ((q_of W k 16 ||| Int32.ofNat 0) &&& x) <;> cases zc1 .eq ((q_of W k 16 ||| q_of W k 15) &&& x) <;> rfl
theorem clash_0 (W : Nat → Int32) (u x r : Int32) (s : Int32) (k : Nat) : l_clash W u x r 0 s k = s := rfl
theorem clash_bits {W : Nat → Int32} {u x r : Int32} (h4 : nv W 9 ≤ 4) : ∀ j, j < nv W 9 → zc1 .eq (q_holds (q_clash W u x r) j) = !(cf W u x r j) := by
  unfold q_clash
  generalize nv W 9 = N at h4
  match N, h4 with
  | 0, _ => intro j hj; exact absurd hj (Nat.not_lt_zero _)
  | 1, _ =>
    simp only [clash_step, clash_0]
    intro j hj
    have hj0 : j = 0 := by omega
    subst hj0
    generalize cf W u x r 0 = f0
    revert f0
    decide +kernel
  | 2, _ =>
    simp only [clash_step, clash_0]
    have key : ∀ f : Nat → Bool, ∀ j, j < 2 → zc1 .eq (q_holds (bif f (0 + 1) then (bif f 0 then Int32.ofNat 0 ||| (Int32.ofNat 1 <<< (Int32.ofNat 0 &&& 31)) else Int32.ofNat 0) ||| (Int32.ofNat 1 <<< (Int32.ofNat (0 + 1) &&& 31)) else (bif f 0 then Int32.ofNat 0 ||| (Int32.ofNat 1 <<< (Int32.ofNat 0 &&& 31)) else Int32.ofNat 0)) j) = !(f j) := by
      intro f j hj
      match j, hj with
      | 0, _ => generalize f 0 = a; generalize f (0 + 1) = c; revert a c; decide +kernel
      | 1, _ => show _ = !(f (0 + 1)); generalize f 0 = a; generalize f (0 + 1) = c; revert a c; decide +kernel
    exact key (cf W u x r)
  | 3, _ =>
    simp only [clash_step, clash_0]
    intro j hj
    match j, hj with
    | 0, _ => generalize cf W u x r 0 = f0; generalize cf W u x r (0 + 1) = f1; generalize cf W u x r (0 + 1 + 1) = f2; revert f0 f1 f2; decide +kernel
    | 1, _ => show _ = !(cf W u x r (0 + 1)); generalize cf W u x r 0 = f0; generalize cf W u x r (0 + 1) = f1; generalize cf W u x r (0 + 1 + 1) = f2; revert f0 f1 f2; decide +kernel
    | 2, _ => show _ = !(cf W u x r (0 + 1 + 1)); generalize cf W u x r 0 = f0; generalize cf W u x r (0 + 1) = f1; generalize cf W u x r (0 + 1 + 1) = f2; revert f0 f1 f2; decide +kernel
  | 4, _ =>
    simp only [clash_step, clash_0]
    intro j hj
    match j, hj with
    | 0, _ => generalize cf W u x r 0 = f0; generalize cf W u x r (0 + 1) = f1; generalize cf W u x r (0 + 1 + 1) = f2; generalize cf W u x r (0 + 1 + 1 + 1) = f3; revert f0 f1 f2 f3; decide +kernel
    | 1, _ => show _ = !(cf W u x r (0 + 1)); generalize cf W u x r 0 = f0; generalize cf W u x r (0 + 1) = f1; generalize cf W u x r (0 + 1 + 1) = f2; generalize cf W u x r (0 + 1 + 1 + 1) = f3; revert f0 f1 f2 f3; decide +kernel
    | 2, _ => show _ = !(cf W u x r (0 + 1 + 1)); generalize cf W u x r 0 = f0; generalize cf W u x r (0 + 1) = f1; generalize cf W u x r (0 + 1 + 1) = f2; generalize cf W u x r (0 + 1 + 1 + 1) = f3; revert f0 f1 f2 f3; decide +kernel
    | 3, _ => show _ = !(cf W u x r (0 + 1 + 1 + 1)); generalize cf W u x r 0 = f0; generalize cf W u x r (0 + 1) = f1; generalize cf W u x r (0 + 1 + 1) = f2; generalize cf W u x r (0 + 1 + 1 + 1) = f3; revert f0 f1 f2 f3; decide +kernel
theorem clash_guess {W : Nat → Int32} {u x r : Int32} (hw : WG W) (hG : GR W) : ∀ j, 0 ≤ j → j < nv W 9 → zc1 .eq (q_holds (q_clash W u x r) j) = false → W (376 + 103 * j + 2) = Int32.ofNat 1 := by
  intro j _ hj hb
  have h4 := hw.N4
  have hj4 : j < 4 := by omega
  rw [clash_bits h4 j hj] at hb
  have a1 := (hw.2 j hj4).1
  by_cases hz : nv W (376 + 103 * j + 2) = 0
  · have e2 : W (376 + 103 * j + 2) = Int32.ofNat 0 := by rw [a1.1, hz]
    obtain ⟨e15, e16, -⟩ := hG j hj4 e2
    have q16 : q_of W j 16 = Int32.ofNat 0 := e16
    have q15 : q_of W j 15 = Int32.ofNat 0 := e15
    have z2 : zc1 .eq (Int32.ofNat 0 &&& x) = true := by
      have : Int32.ofNat 0 &&& x = Int32.ofNat 0 := Int32.zero_and
      rw [this]; decide
    unfold cf at hb
    rw [q16, q15, orz, z2] at hb
    cases h1 : zc1 .eq r <;> rw [h1] at hb <;> simp at hb
  · have e1 : nv W (376 + 103 * j + 2) = 1 := by have := a1.2.2; omega
    rw [a1.1, e1]
end
section
/-! stepping alike: what a world keeps beside its order, frames, the falls of a clash -/
noncomputable def WKt (W : Nat → Int32) (t : Nat) : Prop := W (376 + 103 * t + 21) = Int32.ofNat 0 ∨ (AL W t ∧ nv W (376 + 103 * t + (55 + 2 * nv W (376 + 103 * t + 0))) = 6)
noncomputable def WX (W : Nat → Int32) : Prop := W2 W ∧ ok W 5 0 9 ∧ ok W 8 0 1 ∧ ∀ t, t < 4 → WKt W t
theorem WX.W {W : Nat → Int32} (h : WX W) : WG W := h.1.1
theorem WX.G {W : Nat → Int32} (h : WX W) : GR W := h.1.2.1
theorem WKt.of {W V : Nat → Int32} {t : Nat} (h : WKt W t) (hw : WG W) (ht : t < 4) (e0 : V (376 + 103 * t + 0) = W (376 + 103 * t + 0)) (e21 : V (376 + 103 * t + 21) = W (376 + 103 * t + 21)) (e22 : V (376 + 103 * t + 22) = W (376 + 103 * t + 22)) (ed : ∀ p, p < 24 → V (376 + 103 * t + (55 + 2 * p)) = W (376 + 103 * t + (55 + 2 * p))) : WKt V t := by
  rcases h with h | ⟨h, g⟩
  · exact Or.inl (e21.trans h)
  · refine Or.inr ⟨h.of e0 e22, ?_⟩
    have h24 := (hw.2 t ht).2.2.2.1.2.2
    have hA : nv W (376 + 103 * t + 0) < nv W (376 + 103 * t + 22) := h
    rw [nv_of e0, nv_of (ed _ (by omega))]
    exact g
/-- what stays through reads and writes of a thread: but for trust, words' log and its own sets -/
noncomputable def FT (u : Nat) (W V : Nat → Int32) : Prop := (∀ k, k < 15 → V k = W k) ∧ (∀ k, 16 ≤ k → k < 20 → V k = W k) ∧ (∀ k, 24 ≤ k → k < 136 → V k = W k) ∧ (u < 4 → ∀ c, c < 103 → V (376 + 103 * u + c) = W (376 + 103 * u + c))
theorem FT.rf (u : Nat) (W : Nat → Int32) : FT u W W := ⟨fun _ _ => rfl, fun _ _ _ => rfl, fun _ _ _ => rfl, fun _ _ _ => rfl⟩
theorem FT.tr {u : Nat} {W V Z : Nat → Int32} (h : FT u W V) (g : FT u V Z) : FT u W Z := ⟨fun k a => (g.1 k a).trans (h.1 k a), fun k a b => (g.2.1 k a b).trans (h.2.1 k a b), fun k a b => (g.2.2.1 k a b).trans (h.2.2.1 k a b), fun a c b => (g.2.2.2 a c b).trans (h.2.2.2 a c b)⟩
theorem falls_g {W : Nat → Int32} (h : WG W) {t y k : Nat} (ht : t < 4) (hy : y < 5) (hk : k < 15 ∨ (16 ≤ k ∧ k < 20) ∨ (24 ≤ k ∧ k < 136)) : q_falls W t y k = W k := by
  have := (h.L t ht).2
  exact falls_fr ht hy h.C this (by omega) (by omega) (by omega) (fun c e => absurd e (by omega))
theorem FT.falls {W : Nat → Int32} (h : WG W) {u o y : Nat} (ho : o < 4) (hy : y < 5) (hou : o ≠ u) : FT u W (q_falls W o y) :=
  ⟨fun k a => falls_g h ho hy (Or.inl a), fun k a b => falls_g h ho hy (Or.inr (Or.inl ⟨a, b⟩)), fun k a b => falls_g h ho hy (Or.inr (Or.inr ⟨a, b⟩)), fun hu c hc => falls_2 h ho hy hu hou hc⟩
theorem falls_21 {W : Nat → Int32} (h : WG W) {t y : Nat} (ht : t < 4) (hy : y < 5) : q_falls W t y (376 + 103 * t + 21) = Int32.ofNat 0 := by
  have hl := (h.L t ht).2
  unfold q_falls
  rw [logs_fr (WC_of (by simp (disch := omega) only [q_ends, upd_ne]) h.C) (by omega) (by omega)]
  simp (disch := omega) only [q_ends, upd_ne]
  exact upd_at _ _ _
theorem WX.falls {W : Nat → Int32} (h : WX W) {t y : Nat} (ht : t < 4) (hy : y < 5) : WX (q_falls W t y) := by
  refine ⟨h.1.falls ht hy, h.2.1.of (falls_6 h.W ht hy (by omega)), h.2.2.1.of (falls_6 h.W ht hy (by omega)), fun u hu => ?_⟩
  by_cases e : t = u
  · subst e
    exact Or.inl (falls_21 h.W ht hy)
  · exact (h.2.2.2 u hu).of h.W hu (falls_2 h.W ht hy hu e (by omega)) (falls_2 h.W ht hy hu e (by omega)) (falls_2 h.W ht hy hu e (by omega)) (fun p hp => falls_2 h.W ht hy hu e (by omega))
theorem reachL_rx {b t w n5 u : Nat} {v x r g s : Int32} {tt : Int32} (hn : n5 ≤ 4) : ∀ (n k : Nat) (m : Nat → Nat → Int32) (W : Nat → Int32), k + n = n5 → RC m b W → WX W → CG m b → nv W 9 = n5 → (∀ j, k ≤ j → j < n5 → zc1 .eq (q_holds s j) = false → W (376 + 103 * j + 2) = Int32.ofNat 1 ∧ j ≠ u) → ∃ m', xl_reachL b t w v x r g s n5 n k m = x_reachC m' b t w v x r g s ∧ (l_clears tt s n5 n k W).1 = Int32.ofNat 1 ∧ RC m' b (l_clears tt s n5 n k W).2 ∧ WX (l_clears tt s n5 n k W).2 ∧ CG m' b ∧ FT u W (l_clears tt s n5 n k W).2 := by
  intro n
  induction n with
  | zero => intro k m W hk h hw hc h9 hs; exact ⟨m, rfl, rfl, h, hw, hc, FT.rf u W⟩
  | succ n ih =>
    intro k m W hk h hw hc h9 hs
    rw [xl_reachL, l_clears, bit_eq]
    cases hb : zc1 .eq (q_holds s k) with
    | true =>
      simp only [cond_true]
      exact ih _ _ _ (by omega) h hw hc h9 (fun j a b c => hs j (by omega) b c)
    | false =>
      simp only [cond_false]
      have hg := hs k (by omega) (by omega) hb
      have h9' : nv (q_falls W k 0) 9 = n5 := by rw [nv_of (falls_6 hw.W (by omega) (by omega) (by omega))]; exact h9
      obtain ⟨m', e1, e2, e3, e4, e5, e6⟩ := ih (k + 1) (x_fall m b k 0).2 (q_falls W k 0) (by omega) (h.fall2 hw.1 hc (by omega) (by omega) hg.1) (hw.falls (by omega) (by omega)) (hc.fall (by omega) (by omega)) h9' (fun j a b c => by
        rw [falls_2 hw.W (by omega) (by omega) (by omega) (by omega) (by omega)]
        exact hs j (by omega) b c)
      exact ⟨m', e1, e2, e3, e4, e5, (FT.falls hw.W (by omega) (by omega) hg.2).tr e6⟩
theorem clash_self {W : Nat → Int32} {x r : Int32} {t : Nat} (h4 : nv W 9 ≤ 4) (ht : t < nv W 9) : zc1 .eq (q_holds (q_clash W (Int32.ofNat t) x r) t) = true := by
  rw [clash_bits h4 t ht]
  unfold cf
  have e : zc2 .eq (Int32.ofNat t) (Int32.ofNat t) = true := decide_eq_true rfl
  rw [e]
  rfl
/-! who yields -/
theorem yields_n {W : Nat → Int32} {t : Nat} {s : Int32} (h : zc2 .ne (q_of W t 2) (Int32.ofNat 1) = true ∨ zc2 .ne (W 8) (Int32.ofNat 1) = true) : ∀ (n : Nat) (c : Int32) (k : Nat), l_yields W t s n c k = Int32.ofNat 0 := by
  intro n
  induction n with
  | zero =>
    intro c k
    rw [l_yields]
    rcases h with h | h
    · rw [h]
      cases zc1 .eq c <;> rfl
    · rw [h]
      cases zc1 .eq c <;> cases zc2 .ne (q_of W t 2) (Int32.ofNat 1) <;> rfl
  | succ n ih =>
    intro c k
    rw [l_yields, ih, ih]
    cases zc1 .ne c <;> cases zc1 .eq (q_holds s k) <;> cases zc2 .ge (q_of W k 20) (q_of W t 20) <;> rfl
theorem yields_1 {W : Nat → Int32} {t : Nat} {s : Int32} (h2 : zc2 .ne (q_of W t 2) (Int32.ofNat 1) = false) (h8 : zc2 .ne (W 8) (Int32.ofNat 1) = false) : ∀ (n k : Nat), l_yields W t s n (Int32.ofNat 1) k = Int32.ofNat 1 := by
  intro n
  induction n with
  | zero =>
    intro k
    rw [l_yields, h2, h8]
    rfl
  | succ n ih =>
    intro k
    rw [l_yields]
    exact ih _
theorem before_eq {m : Nat → Nat → Int32} {b : Nat} {W : Nat → Int32} {t : Nat} {s y : Int32} (h : RC m b W) (h4 : nv W 9 ≤ 4) (h2 : zc2 .ne (q_of W t 2) (Int32.ofNat 1) = false) (h8 : zc2 .ne (W 8) (Int32.ofNat 1) = false) (hy : y = q_of W t 20) (hs : ∀ j, j < nv W 9 → zc1 .eq (q_holds s j) = false → W (376 + 103 * j + 2) = Int32.ofNat 1) : ∀ (n k : Nat), k + n = nv W 9 → xl_anyBefore m b s y n k = l_yields W t s n (Int32.ofNat 0) k := by
  intro n
  induction n with
  | zero =>
    intro k hk
    rw [xl_anyBefore, l_yields]
    rfl
  | succ n ih =>
    intro k hk
    rw [xl_anyBefore, l_yields, bit_eq, ih _ (by omega), yields_1 h2 h8]
    cases hb : zc1 .eq (q_holds s k) with
    | true => rfl
    | false =>
      have hg := hs k (by omega) hb
      have e : m (b + 14 + 7 * k) 3 = q_of W k 20 := h.cellS (by omega) (by omega) ⟨by omega, fun q => by omega, fun _ => hg, fun q => by omega, fun q => by omega⟩ rfl
      rw [e, hy]
      rfl
theorem zne0 : zc1 .ne (Int32.ofNat 0) = false := by decide
theorem zn1 : zc1 .ne (Int32.ofNat 1) = true := by decide
theorem zeq0 : zc1 .eq (Int32.ofNat 0) = true := by decide
theorem zeq1' : zc1 .eq (Int32.ofNat 1) = false := by decide
theorem ok.b01 {W : Nat → Int32} {k : Nat} (h : ok W k 0 1) : W k = Int32.ofNat 0 ∨ W k = Int32.ofNat 1 := by
  have h1 := h.2.2
  by_cases e : nv W k = 0
  · left; rw [h.1, e]
  · right; rw [h.1, show nv W k = 1 by omega]
theorem WG.g01 {W : Nat → Int32} (h : WG W) {t : Nat} (ht : t < 4) : W (376 + 103 * t + 2) = Int32.ofNat 0 ∨ W (376 + 103 * t + 2) = Int32.ofNat 1 := (h.2 t ht).1.b01
theorem RC.n9 {m : Nat → Nat → Int32} {b : Nat} {W : Nat → Int32} (h : RC m b W) : mv m b 5 = nv W 9 := by
  have q := h.glob (k := 9) (by omega) (by omega)
  unfold mv nv
  rw [← q]
  rfl
theorem RC.gs {m : Nat → Nat → Int32} {b : Nat} {W : Nat → Int32} {t : Nat} (h : RC m b W) (ht4 : t < 4) (ht : t < nv W 9) : m (b + 14 + 7 * t) 0 = W (376 + 103 * t + 2) := h.cellS ht4 (by omega) (cnd0 ht (by omega)) rfl
theorem clears_rx {m mm : Nat → Nat → Int32} {b : Nat} {W : Nat → Int32} {t w : Nat} {v x r : Int32} (h : RC m b W) (hx : WX W) (hc : CG m b) (ht : t < nv W 9) : (x_reachB m b t w v x r (x_isGuessing m b t) = ((x_fall m b t 0).1, (x_fall m b t 0).2) ∧ q_clears mm W t (q_clash W (Int32.ofNat t) x r) = (Int32.ofNat 0, q_falls W t 0, zm2 mm 137 5 (Int32.ofNat 1)) ∧ W (376 + 103 * t + 2) = Int32.ofNat 1) ∨ ∃ m' W', x_reachB m b t w v x r (x_isGuessing m b t) = x_reachC m' b t w v x r (x_isGuessing m b t) (q_clash W (Int32.ofNat t) x r) ∧ q_clears mm W t (q_clash W (Int32.ofNat t) x r) = (Int32.ofNat 1, W', mm) ∧ RC m' b W' ∧ WX W' ∧ CG m' b ∧ FT t W W' := by
  have h4 := hx.W.N4
  have ht4 : t < 4 := by omega
  have e5 := h.n9
  have hh := holders_eq (x := x) (u := Int32.ofNat t) (r := r) h hx.W hx.G
  have g0 := h.gs ht4 ht
  have hcg := clash_guess (u := Int32.ofNat t) (x := x) (r := r) hx.W hx.G
  have hcs := clash_self (x := x) (r := r) h4 ht
  generalize q_clash W (Int32.ofNat t) x r = s at hh hcg hcs ⊢
  obtain ⟨m', e1, e2, e3, e4, e6, e7⟩ := reachL_rx (t := t) (w := w) (v := v) (x := x) (r := r) (g := x_isGuessing m b t) (u := t) (tt := Int32.ofNat t) (s := s) h4 (nv W 9) 0 m W (by omega) h hx hc rfl (fun j _ hj hb => ⟨hcg j (by omega) hj hb, fun e => by
    rw [e, hcs] at hb
    exact absurd hb (by decide)⟩)
  have hcl : zc1 .eq (q_yields W t s) = true → q_clears mm W t s = (Int32.ofNat 1, (l_clears (Int32.ofNat t) s (nv W 9) (nv W 9) 0 W).2, mm) := by
    intro hy
    unfold q_clears
    rw [hy, cond_true, e2]
  rcases hx.W.g01 ht4 with e | e
  · have hi : x_isGuessing m b t = Int32.ofNat 0 := by
      unfold x_isGuessing
      rw [g0, e, zeq0]
      rfl
    right
    refine ⟨m', _, ?_, hcl ?_, e3, e4, e6, e7⟩
    · rw [hi] at e1 ⊢
      unfold x_reachB
      rw [hh, e5, zeq0, cond_true]
      exact e1
    · unfold q_yields
      rw [yields_n (Or.inl (decide_eq_true (by show ¬ W (376 + 103 * t + 2) = Int32.ofNat 1; rw [e]; decide)))]
      exact zeq0
  · have hi : x_isGuessing m b t = Int32.ofNat 1 := by
      unfold x_isGuessing
      rw [g0, e, zeq1']
      rfl
    have g8 : m (b + 3) 8 = W 8 := h.glob (k := 8) (by omega) (by omega)
    have h2 : zc2 .ne (q_of W t 2) (Int32.ofNat 1) = false := decide_eq_false (fun q => q e)
    rcases hx.2.2.1.b01 with e8 | e8
    · right
      refine ⟨m', _, ?_, hcl ?_, e3, e4, e6, e7⟩
      · rw [hi] at e1 ⊢
        unfold x_reachB
        rw [hh, e5, zeq1', cond_false, g8, e8, zeq0, cond_true]
        exact e1
      · unfold q_yields
        rw [yields_n (Or.inr (decide_eq_true (by rw [e8]; decide)))]
        exact zeq0
    · have h8 : zc2 .ne (W 8) (Int32.ofNat 1) = false := decide_eq_false (fun q => q e8)
      have hb : x_anyBefore m b s (m (b + 14 + 7 * t) 3) = q_yields W t s := by
        unfold x_anyBefore q_yields
        rw [e5]
        refine before_eq h h4 h2 h8 ?_ (fun j hj q => hcg j (by omega) hj q) _ _ (by omega)
        exact h.cellS ht4 (by omega) ⟨ht, fun q => by omega, fun _ => e, fun q => by omega, fun q => by omega⟩ rfl
      cases hy : zc1 .eq (q_yields W t s) with
      | true =>
        right
        refine ⟨m', _, ?_, hcl hy, e3, e4, e6, e7⟩
        rw [hi] at e1 ⊢
        unfold x_reachB
        rw [hh, e5, zeq1', cond_false, g8, e8, zeq1', cond_false, hb, hy, cond_true]
        exact e1
      | false =>
        left
        refine ⟨?_, ?_, e⟩
        · rw [hi]
          unfold x_reachB
          rw [hh, e5, zeq1', cond_false, g8, e8, zeq1', cond_false, hb, hy, cond_false]
        · unfold q_clears
          rw [hy, cond_false]
          rfl
/-! what a thread keeps, one by one -/
noncomputable def WXt (W : Nat → Int32) (t : Nat) : Prop := (W (376 + 103 * t + 2) = Int32.ofNat 0 → W (376 + 103 * t + 15) = Int32.ofNat 0 ∧ W (376 + 103 * t + 16) = Int32.ofNat 0 ∧ W (376 + 103 * t + 17) = Int32.ofNat 0) ∧ (W (376 + 103 * t + 2) = Int32.ofNat 1 → 1 ≤ nv W (376 + 103 * t + 10)) ∧ WKt W t
theorem WX.T {W : Nat → Int32} (h : WX W) {t : Nat} (ht : t < 4) : WXt W t := ⟨h.G t ht, h.1.2.2.1 t ht, h.2.2.2 t ht⟩
theorem WX.mk {W : Nat → Int32} (hw : WG W) (hb : TB W) (h5 : ok W 5 0 9) (h8 : ok W 8 0 1) (hT : ∀ t, t < 4 → WXt W t) : WX W := ⟨⟨hw, fun t ht => (hT t ht).1, fun t ht => (hT t ht).2.1, hb⟩, h5, h8, fun t ht => (hT t ht).2.2⟩
theorem WXt.of {W V : Nat → Int32} {t : Nat} (h : WXt W t) (hw : WG W) (ht : t < 4) (e : ∀ c, c < 103 → (c = 0 ∨ c = 2 ∨ c = 10 ∨ (15 ≤ c ∧ c ≤ 17) ∨ c = 21 ∨ c = 22 ∨ 55 ≤ c) → V (376 + 103 * t + c) = W (376 + 103 * t + c)) : WXt V t := by
  obtain ⟨a, b, c⟩ := h
  refine ⟨?_, ?_, c.of hw ht (e 0 (by omega) (by omega)) (e 21 (by omega) (by omega)) (e 22 (by omega) (by omega)) (fun p hp => e _ (by omega) (by omega))⟩
  · rw [e 2 (by omega) (by omega), e 15 (by omega) (by omega), e 16 (by omega) (by omega), e 17 (by omega) (by omega)]
    exact a
  · rw [e 2 (by omega) (by omega), nv_of (e 10 (by omega) (by omega))]
    exact b
theorem TB.of {W V : Nat → Int32} (h : TB W) (e : ∀ k, k = 6 ∨ (20 ≤ k ∧ k < 24) → V k = W k) : TB V := ⟨h.1.of (e 6 (by omega)), fun l hl => (h.2 l hl).of (e _ (by omega))⟩
/-- all threads but one are as they were -/
theorem WX.one {W V : Nat → Int32} (h : WX W) {t : Nat} (ht : t < 4) (hw : WG V) (e : ∀ k, k = 5 ∨ k = 6 ∨ k = 8 ∨ (20 ≤ k ∧ k < 24) → V k = W k) (eo : ∀ u, u < 4 → u ≠ t → ∀ c, c < 103 → V (376 + 103 * u + c) = W (376 + 103 * u + c)) (hT : WXt V t) : WX V := by
  refine WX.mk hw (h.1.2.2.2.of (fun k hk => e k (by omega))) (h.2.1.of (e 5 (by omega))) (h.2.2.1.of (e 8 (by omega))) (fun u hu => ?_)
  by_cases q : u = t
  · rw [q]; exact hT
  · exact (h.T hu).of h.W hu (fun c hc _ => eo u hu q c hc)
theorem WX.glob {W : Nat → Int32} (h : WX W) {k : Nat} {x : Int32} (hk : k < 376) (h2 : k ≠ 0 ∧ k ≠ 2 ∧ k ≠ 7 ∧ k ≠ 9 ∧ k ≠ 14 ∧ k ≠ 15 ∧ ¬ (16 ≤ k ∧ k < 20)) (h3 : k ≠ 5 ∧ k ≠ 6 ∧ k ≠ 8 ∧ ¬ (20 ≤ k ∧ k < 24)) : WX (upd W k x) :=
  WX.mk (h.W.put _ (fre_lo hk h2)) (h.1.2.2.2.of (fun j hj => upd_ne _ _ (by omega))) (h.2.1.of (upd_ne _ _ (by omega))) (h.2.2.1.of (upd_ne _ _ (by omega))) (fun t ht => (h.T ht).of h.W ht (fun c hc _ => upd_ne _ _ (by omega)))
theorem WX.th {W : Nat → Int32} (h : WX W) {t c : Nat} {x : Int32} (ht : t < 4) (hc : c < 103) (h2 : c ≠ 0 ∧ c ≠ 2 ∧ c ≠ 10 ∧ ¬ (15 ≤ c ∧ c ≤ 17) ∧ c ≠ 21 ∧ ¬ cT c) : WX (upd W (376 + 103 * t + c) x) := by
  have h22 : c ≠ 22 ∧ c < 55 := by unfold cT at h2; omega
  exact h.one ht (h.W.put _ (fre_at ht hc ⟨h2.1, h2.2.1, h2.2.2.1, h2.2.2.2.2.2⟩)) (fun k hk => upd_ne _ _ (by omega)) (fun u hu hut d hd => upd_ne _ _ (by omega)) ((h.T ht).of h.W ht (fun d hd hq => upd_ne _ _ (by omega)))
theorem WX.set {W : Nat → Int32} (h : WX W) {t c : Nat} {x : Int32} (ht : t < 4) (hc : 15 ≤ c ∧ c ≤ 17) (hg : W (376 + 103 * t + 2) = Int32.ofNat 1) : WX (upd W (376 + 103 * t + c) x) := by
  refine h.one ht (h.W.put _ (fre_at ht (by omega) (by unfold cT; omega))) (fun k hk => upd_ne _ _ (by omega)) (fun u hu hut d hd => upd_ne _ _ (by omega)) ?_
  obtain ⟨a1, a2, a3⟩ := h.T ht
  refine ⟨fun q => ?_, ?_, a3.of h.W ht (upd_ne _ _ (by omega)) (upd_ne _ _ (by omega)) (upd_ne _ _ (by omega)) (fun p hp => upd_ne _ _ (by omega))⟩
  · rw [upd_ne _ _ (by omega), hg] at q
    exact absurd q (by decide)
  · rw [upd_ne _ _ (by omega), nv_of (upd_ne _ _ (by omega))]
    exact a2
theorem WX.logs {W : Nat → Int32} (h : WX W) (a c v : Int32) : WX (q_logs W a c v) :=
  WX.mk (h.W.logs _ _ _) (h.1.2.2.2.of (fun j hj => logs_fr h.W.C (by omega) (by omega))) (h.2.1.of (logs_fr h.W.C (by omega) (by omega))) (h.2.2.1.of (logs_fr h.W.C (by omega) (by omega))) (fun t ht => (h.T ht).of h.W ht (fun c hc _ => logs_fr h.W.C (by omega) (by omega)))
/-! reads alike -/
noncomputable def FW (t : Nat) (W V : Nat → Int32) : Prop := (∀ k, k < 15 ∨ (16 ≤ k ∧ k < 20) ∨ (24 ≤ k ∧ k < 32) → V k = W k) ∧ ∀ c, c < 103 → ¬ (15 ≤ c ∧ c ≤ 17) → ¬ (23 ≤ c ∧ c ≤ 54) → V (376 + 103 * t + c) = W (376 + 103 * t + c)
theorem FT.w {t : Nat} {W V : Nat → Int32} (h : FT t W V) (ht : t < 4) : FW t W V := by
  refine ⟨fun k hk => ?_, fun c hc _ _ => h.2.2.2 ht c hc⟩
  rcases hk with a | ⟨a, b⟩ | ⟨a, b⟩
  · exact h.1 k a
  · exact h.2.1 k a b
  · exact h.2.2.1 k a (by omega)
theorem FW.put {t k : Nat} {W V : Nat → Int32} {x : Int32} (h : FW t W V) (hk : (32 ≤ k ∧ k < 376) ∨ (∃ c, k = 376 + 103 * t + c ∧ ((15 ≤ c ∧ c ≤ 17) ∨ (23 ≤ c ∧ c ≤ 54)))) : FW t W (upd V k x) := by
  refine ⟨fun j hj => ?_, fun c hc a b => ?_⟩
  · rw [upd_ne _ _ (by rcases hk with q | ⟨c, q, _⟩ <;> omega)]
    exact h.1 j hj
  · rw [upd_ne _ _ (by rcases hk with q | ⟨d, q, _⟩ <;> omega)]
    exact h.2 c hc a b
noncomputable def RU (b t : Nat) (mm : Nat → Nat → Int32) (W : Nat → Int32) (p : QM) (q : QT) : Prop := RC p.2 b q.2.1 ∧ WX q.2.1 ∧ CG p.2 b ∧ ((p.1 = Int32.ofNat 1 ∧ q.1 = Int32.ofNat 1 ∧ q.2.2 = mm ∧ FW t W q.2.1) ∨ (p.1 = -1 ∧ q.1 = Int32.ofNat 0 ∧ q.2.2 = zm2 mm 137 5 (Int32.ofNat 1) ∧ W (376 + 103 * t + 2) = Int32.ofNat 1))
theorem RU.fell {m mm : Nat → Nat → Int32} {b : Nat} {W : Nat → Int32} {t y : Nat} (h : RC m b W) (hx : WX W) (hc : CG m b) (ht : t < nv W 9) (hy : y < 5) (hg : W (376 + 103 * t + 2) = Int32.ofNat 1) : RU b t mm W ((x_fall m b t y).1, (x_fall m b t y).2) (Int32.ofNat 0, (q_itFalls mm W t y).1, (q_itFalls mm W t y).2) := by
  have h4 := hx.W.N4
  exact ⟨h.fall2 hx.1 hc ht hy hg, hx.falls (by omega) hy, hc.fall (by omega) hy, Or.inr ⟨rfl, rfl, rfl, hg⟩⟩
theorem blk_of {W V : Nat → Int32} (e : V 0 = W 0) (w : Int32) : q_blockOf V w = q_blockOf W w := by
  unfold q_blockOf
  rw [e]
theorem reads_rx {m mm : Nat → Nat → Int32} {b : Nat} {W : Nat → Int32} {t w : Nat} (h : RC m b W) (hx : WX W) (hc : CG m b) (ht : t < nv W 9) : RU b t mm W (x_reach m b t w (-1)) (q_reads mm W t (Int32.ofNat w)) := by
  have h4 := hx.W.N4
  have ht4 : t < 4 := by omega
  have ex : x_reach m b t w (-1) = x_reachB m b t w (-1) (x_blockBit m b (Int32.ofNat w)) (Int32.ofNat 0) (x_isGuessing m b t) := by
    unfold x_reach
    rw [show zc2 .eq (-1 : Int32) (-1) = true from by decide, cond_true]
    cases zc1 .eq (x_isGuessing m b t) <;> rfl
  have g0 := h.gs ht4 ht
  rw [ex, block_eq h hx.W]
  unfold q_reads
  rcases clears_rx (mm := mm) (w := w) (v := -1) (x := q_blockOf W (Int32.ofNat w)) (r := Int32.ofNat 0) h hx hc ht with ⟨a1, a2, a3⟩ | ⟨m', W', a1, a2, a3, a4, a5, a6⟩
  · rw [a1, a2]
    dsimp only
    rw [zne0, cond_false]
    exact RU.fell h hx hc ht (by omega) a3
  · have e2 : W' (376 + 103 * t + 2) = W (376 + 103 * t + 2) := a6.2.2.2 ht4 2 (by omega)
    have n9 : nv W' 9 = nv W 9 := nv_of (a6.1 9 (by omega))
    rw [a1, a2]
    dsimp only
    rw [zn1, cond_true]
    unfold x_reachC x_isGuessing
    rw [g0]
    rcases hx.W.g01 ht4 with e | e
    · have q : zc2 .ne (q_of W' t 2) (Int32.ofNat 1) = true := decide_eq_true (by show ¬ W' (376 + 103 * t + 2) = Int32.ofNat 1; rw [e2, e]; decide)
      rw [q, cond_true, e, zeq0, cond_true, zeq0, cond_true, cond_true]
      exact ⟨a3, a4, a5, Or.inl ⟨rfl, rfl, rfl, a6.w ht4⟩⟩
    · have q : zc2 .ne (q_of W' t 2) (Int32.ofNat 1) = false := decide_eq_false (fun z => z (e2.trans e))
      have r6 : m' (b + 14 + 7 * t) 6 = W' (376 + 103 * t + 15) := a3.cellS ht4 (by omega) (cnd0 (by omega) (by omega)) rfl
      rw [q, cond_false, e, zeq1', cond_false, zeq1', cond_false, zeq0, cond_true, r6, blk_of (a6.1 0 (by omega))]
      exact ⟨a3.thS (c := 15) (o := 14) (s := 6) a4.W.C ht4 (by omega) (by omega) rfl, a4.set ht4 (by omega) (e2.trans e), a5.put _ (ncG ht4 (by omega)), Or.inl ⟨rfl, rfl, rfl, (a6.w ht4).put (Or.inr ⟨15, rfl, by omega⟩)⟩⟩
end
section
/-! bits of a set -/
noncomputable def rbt (x : Int32) (i : Nat) : Bool := x.toBitVec.getLsbD i
theorem rb_or (x y : Int32) (i : Nat) : rbt (x ||| y) i = (rbt x i || rbt y i) := by unfold rbt; rw [Int32.toBitVec_or, BitVec.getLsbD_or]
theorem rb_and (x y : Int32) (i : Nat) : rbt (x &&& y) i = (rbt x i && rbt y i) := by unfold rbt; rw [Int32.toBitVec_and, BitVec.getLsbD_and]
theorem rb_ext {x y : Int32} (h : ∀ i, i < 32 → rbt x i = rbt y i) : x = y := Int32.toBitVec_inj.mp (BitVec.eq_of_getLsbD_eq (fun i hi => h i hi))
theorem rs_l : ∀ n, n < 32 → ((Int32.ofNat n &&& 31).toBitVec.smod 32).toNat = n := by decide +kernel
theorem rs_u : ∀ n, n < 32 → (((Int32.ofNat n).toUInt32 &&& Int32.toUInt32 31).toBitVec % 32).toNat = n := by decide +kernel
theorem rb_shl (n : Nat) (hn : n < 32) (x : Int32) {i : Nat} (hi : i < 32) : rbt (x <<< (Int32.ofNat n &&& 31)) i = (decide (n ≤ i) && rbt x (i - n)) := by
  unfold rbt
  rw [Int32.toBitVec_shiftLeft]
  show (x.toBitVec <<< ((Int32.ofNat n &&& 31).toBitVec.smod 32).toNat).getLsbD i = _
  rw [rs_l n hn, BitVec.getLsbD_shiftLeft]
  rcases Nat.lt_or_ge i n with h | h
  · simp [h, Nat.not_le.mpr h]
  · simp [hi, h, Nat.not_lt.mpr h]
theorem rb_ushr (n : Nat) (hn : n < 32) (x : Int32) (i : Nat) : rbt ((x.toUInt32 >>> ((Int32.ofNat n).toUInt32 &&& Int32.toUInt32 31)).toInt32) i = rbt x (n + i) := by
  show (x.toUInt32 >>> ((Int32.ofNat n).toUInt32 &&& Int32.toUInt32 31)).toBitVec.getLsbD i = x.toUInt32.toBitVec.getLsbD (n + i)
  rw [UInt32.toBitVec_shiftRight]
  show (x.toUInt32.toBitVec >>> (((Int32.ofNat n).toUInt32 &&& Int32.toUInt32 31).toBitVec % 32).toNat).getLsbD i = _
  rw [rs_u n hn, BitVec.getLsbD_ushiftRight]
theorem rb_one : ∀ i, i < 32 → rbt (Int32.ofNat 1) i = decide (i = 0) := by decide +kernel
theorem rb_zero : ∀ i, i < 32 → rbt (Int32.ofNat 0) i = false := by decide +kernel
theorem rb_k {s : Int32} {k : Nat} (hk : k < 32) : zc1 .eq (q_holds s k) = !(rbt s k) := by
  rw [← bit_eq]
  have e0 : rbt ((s.toUInt32 >>> ((Int32.ofNat k).toUInt32 &&& Int32.toUInt32 31)).toInt32 &&& Int32.ofNat 1) 0 = rbt s k := by
    rw [rb_and, rb_ushr k hk, rb_one 0 (by omega), Nat.add_zero]
    simp
  rcases zand1 ((s.toUInt32 >>> ((Int32.ofNat k).toUInt32 &&& Int32.toUInt32 31)).toInt32) with e | e
  · rw [e] at e0 ⊢
    rw [← e0]
    decide
  · rw [e] at e0 ⊢
    rw [← e0]
    decide
theorem hbit_rb {s : Int32} {k : Nat} (hk : k < 32) : hbit s k ↔ rbt s k = true := by
  have h := rb_k (s := s) hk
  unfold hbit
  constructor
  · intro e
    rw [e] at h
    have z : zc1 .eq (Int32.ofNat 1) = false := by decide
    rw [z] at h
    cases hb : rbt s k with
    | true => rfl
    | false => rw [hb] at h; exact absurd h (by decide)
  · intro e
    rw [e] at h
    unfold q_holds at h ⊢
    cases hc : zc2 .ne ((s.toUInt32 >>> ((Int32.ofNat k).toUInt32 &&& Int32.toUInt32 31)).toInt32 &&& Int32.ofNat 1) (Int32.ofNat 1) with
    | true => rw [hc] at h; exact absurd h (by decide)
    | false => rfl
/-- one bit more -/
theorem hbit_or {s : Int32} {w k : Nat} (hw : w < 32) (hk : k < 32) (h : hbit (s ||| (Int32.ofNat 1 <<< (Int32.ofNat w &&& 31))) k) : k = w ∨ hbit s k := by
  rw [hbit_rb hk, rb_or, rb_shl w hw _ hk] at h
  cases hb : rbt s k with
  | true => exact Or.inr ((hbit_rb hk).mpr hb)
  | false =>
    rw [hb, Bool.false_or, Bool.and_eq_true] at h
    have h1 := of_decide_eq_true h.1
    have h2 := h.2
    rw [rb_one _ (by omega)] at h2
    have h3 := of_decide_eq_true h2
    exact Or.inl (by omega)
end
section
/-! how many bits: two ways of counting -/
noncomputable def hit : Nat → Nat → Nat
  | 0, n => n
  | a + 1, n => hit a (n / 2)
noncomputable def cnt : Nat → Nat → Nat
  | 0, _ => 0
  | a + 1, n => n % 2 + cnt a (n / 2)
theorem hit_s : ∀ (a n : Nat), hit (a + 1) n = hit a n / 2 := by
  intro a
  induction a with
  | zero => intro n; rfl
  | succ a ih => intro n; exact ih (n / 2)
theorem hit_d : ∀ (a n : Nat), hit a n = n / 2 ^ a := by
  intro a
  induction a with
  | zero => intro n; rw [Nat.pow_zero, Nat.div_one]; rfl
  | succ a ih => intro n; rw [hit_s, ih, Nat.div_div_eq_div_mul, Nat.pow_succ]
theorem cnt_add : ∀ (a c n : Nat), cnt (a + c) n = cnt a n + cnt c (hit a n) := by
  intro a
  induction a with
  | zero => intro c n; rw [Nat.zero_add]; exact (Nat.zero_add _).symm
  | succ a ih =>
    intro c n
    rw [show a + 1 + c = (a + c) + 1 by omega]
    show n % 2 + cnt (a + c) (n / 2) = n % 2 + cnt a (n / 2) + cnt c (hit a (n / 2))
    rw [ih, Nat.add_assoc]
noncomputable def dg2 : Nat → Nat → Nat
  | 0, _ => 0
  | m + 1, n => cnt 2 n + 4 * dg2 m (hit 2 n)
noncomputable def dg4 : Nat → Nat → Nat
  | 0, _ => 0
  | m + 1, n => cnt 4 n + 16 * dg4 m (hit 4 n)
noncomputable def dg8 : Nat → Nat → Nat
  | 0, _ => 0
  | m + 1, n => cnt 8 n + 256 * dg8 m (hit 8 n)
noncomputable def mk2 : Nat → Nat
  | 0 => 0
  | m + 1 => 4 * mk2 m + 1
noncomputable def mk4 : Nat → Nat
  | 0 => 0
  | m + 1 => 16 * mk4 m + 3
noncomputable def mk8 : Nat → Nat
  | 0 => 0
  | m + 1 => 256 * mk8 m + 15
theorem landp (i : Nat) {a c : Nat} (x y : Nat) (ha : a < 2 ^ i) (hc : c < 2 ^ i) : (2 ^ i * x + a) &&& (2 ^ i * y + c) = 2 ^ i * (x &&& y) + (a &&& c) := by
  apply Nat.eq_of_testBit_eq
  intro j
  rw [Nat.testBit_and, Nat.testBit_two_pow_mul_add _ ha, Nat.testBit_two_pow_mul_add _ hc, Nat.testBit_two_pow_mul_add _ (Nat.and_lt_two_pow _ hc)]
  by_cases h : j < i
  · rw [if_pos h, if_pos h, if_pos h, Nat.testBit_and]
  · rw [if_neg h, if_neg h, if_neg h, Nat.testBit_and]
theorem land4 {d : Nat} (x y : Nat) (h : d < 4) : (4 * x + d) &&& (4 * y + 1) = 4 * (x &&& y) + d % 2 := by
  have q := landp 2 (a := d) (c := 1) x y h (by decide)
  rw [show d &&& 1 = d % 2 from Nat.and_two_pow_sub_one_eq_mod d 1] at q
  exact q
theorem land16 {d : Nat} (x y : Nat) (h : d < 16) : (16 * x + d) &&& (16 * y + 3) = 16 * (x &&& y) + d % 4 := by
  have q := landp 4 (a := d) (c := 3) x y h (by decide)
  rw [show d &&& 3 = d % 4 from Nat.and_two_pow_sub_one_eq_mod d 2] at q
  exact q
theorem land256 {d : Nat} (x y : Nat) (h : d < 256) : (256 * x + d) &&& (256 * y + 15) = 256 * (x &&& y) + d % 16 := by
  have q := landp 8 (a := d) (c := 15) x y h (by decide)
  rw [show d &&& 15 = d % 16 from Nat.and_two_pow_sub_one_eq_mod d 4] at q
  exact q
theorem cnt2 (n : Nat) : cnt 2 n = n % 2 + n / 2 % 2 := rfl
theorem hit2 (n : Nat) : hit 2 n = n / 2 / 2 := rfl
theorem st2 : ∀ (m n : Nat), n < 4 ^ m → n = dg2 m n + ((n / 2) &&& mk2 m) := by
  intro m
  induction m with
  | zero =>
    intro n h
    have h0 : n < 1 := h
    have : n = 0 := by omega
    subst this
    rfl
  | succ m ih =>
    intro n h
    have hp : 4 ^ (m + 1) = 4 ^ m * 4 := Nat.pow_succ _ _
    have h1 := ih (n / 2 / 2) (by omega)
    have e : n / 2 = 4 * (n / 2 / 2 / 2) + (n / 2 % 2 + 2 * (n / 2 / 2 % 2)) := by omega
    have a : (n / 2) &&& mk2 (m + 1) = 4 * ((n / 2 / 2 / 2) &&& mk2 m) + (n / 2 % 2 + 2 * (n / 2 / 2 % 2)) % 2 := by
      show (n / 2) &&& (4 * mk2 m + 1) = _
      rw [← land4 _ _ (by omega), ← e]
    rw [a]
    show n = n % 2 + (n / 2 % 2 + 0) + 4 * dg2 m (n / 2 / 2) + _
    generalize (n / 2 / 2 / 2) &&& mk2 m = z at h1 ⊢
    generalize dg2 m (n / 2 / 2) = y at h1 ⊢
    omega
theorem st4 : ∀ (m n : Nat), (dg2 (2 * m) n &&& mk4 m) + ((dg2 (2 * m) n / 4) &&& mk4 m) = dg4 m n := by
  intro m
  induction m with
  | zero => intro n; rw [mk4, dg4, Nat.and_zero, Nat.and_zero]
  | succ m ih =>
    intro n
    have h1 := ih (hit 4 n)
    have e : dg2 (2 * (m + 1)) n = 16 * dg2 (2 * m) (hit 4 n) + (cnt 2 n + 4 * cnt 2 (hit 2 n)) := by
      show cnt 2 n + 4 * (cnt 2 (hit 2 n) + 4 * dg2 (2 * m) (hit 4 n)) = _
      omega
    have c4 : cnt 4 n = cnt 2 n + cnt 2 (hit 2 n) := cnt_add 2 2 n
    have b1 : cnt 2 n ≤ 2 := by rw [cnt2]; omega
    have b2 : cnt 2 (hit 2 n) ≤ 2 := by rw [cnt2]; omega
    show (dg2 (2 * (m + 1)) n &&& (16 * mk4 m + 3)) + ((dg2 (2 * (m + 1)) n / 4) &&& (16 * mk4 m + 3)) = cnt 4 n + 16 * dg4 m (hit 4 n)
    rw [e, c4, ← h1]
    generalize cnt 2 n = p at b1 ⊢
    generalize cnt 2 (hit 2 n) = q at b2 ⊢
    generalize dg2 (2 * m) (hit 4 n) = X
    have e2 : (16 * X + (p + 4 * q)) / 4 = 16 * (X / 4) + (q + 4 * (X % 4)) := by omega
    rw [e2, land16 _ _ (by omega), land16 _ _ (by omega)]
    generalize X &&& mk4 m = y
    generalize (X / 4) &&& mk4 m = z
    omega
theorem cnt4_le (n : Nat) : cnt 4 n ≤ 4 := by
  have e : cnt 4 n = cnt 2 n + cnt 2 (hit 2 n) := cnt_add 2 2 n
  have b1 : cnt 2 n ≤ 2 := by rw [cnt2]; omega
  have b2 : cnt 2 (hit 2 n) ≤ 2 := by rw [cnt2]; omega
  omega
theorem dg4_m : ∀ (m n : Nat), dg4 m n % 16 ≤ 4 := by
  intro m n
  cases m with
  | zero => exact Nat.zero_le _
  | succ m =>
    show (cnt 4 n + 16 * dg4 m (hit 4 n)) % 16 ≤ 4
    have := cnt4_le n
    omega
theorem st8 : ∀ (m n : Nat), (dg4 (2 * m) n + dg4 (2 * m) n / 16) &&& mk8 m = dg8 m n := by
  intro m
  induction m with
  | zero => intro n; rw [mk8, dg8, Nat.and_zero]
  | succ m ih =>
    intro n
    have h1 := ih (hit 8 n)
    have e : dg4 (2 * (m + 1)) n = 256 * dg4 (2 * m) (hit 8 n) + (cnt 4 n + 16 * cnt 4 (hit 4 n)) := by
      show cnt 4 n + 16 * (cnt 4 (hit 4 n) + 16 * dg4 (2 * m) (hit 8 n)) = _
      omega
    have c8 : cnt 8 n = cnt 4 n + cnt 4 (hit 4 n) := cnt_add 4 4 n
    have b1 := cnt4_le n
    have b2 := cnt4_le (hit 4 n)
    have b3 := dg4_m (2 * m) (hit 8 n)
    show (dg4 (2 * (m + 1)) n + dg4 (2 * (m + 1)) n / 16) &&& (256 * mk8 m + 15) = cnt 8 n + 256 * dg8 m (hit 8 n)
    rw [e, c8, ← h1]
    generalize cnt 4 n = p at b1 ⊢
    generalize cnt 4 (hit 4 n) = q at b2 ⊢
    generalize dg4 (2 * m) (hit 8 n) = X at b3 ⊢
    have e2 : 256 * X + (p + 16 * q) + (256 * X + (p + 16 * q)) / 16 = 256 * (X + X / 16) + (p + q + 16 * (q + X % 16)) := by omega
    rw [e2, land256 _ _ (by omega)]
    generalize (X + X / 16) &&& mk8 m = y
    omega
/-- the class's way, in numbers -/
noncomputable def pcn (n : Nat) : Nat :=
  let i1 := n - ((n / 2) &&& 1431655765)
  let i2 := (i1 &&& 858993459) + ((i1 / 4) &&& 858993459)
  let i3 := (i2 + i2 / 16) &&& 252645135
  let i4 := i3 + i3 / 256
  let i5 := i4 + i4 / 65536
  i5 &&& 63
theorem cnt8_le (n : Nat) : cnt 8 n ≤ 8 := by
  have e : cnt 8 n = cnt 4 n + cnt 4 (hit 4 n) := cnt_add 4 4 n
  have b1 := cnt4_le n
  have b2 := cnt4_le (hit 4 n)
  omega
theorem pcn_eq {n : Nat} (h : n < 4294967296) : pcn n = cnt 32 n := by
  have k2 : mk2 16 = 1431655765 := by decide
  have k4 : mk4 8 = 858993459 := by decide
  have k8 : mk8 4 = 252645135 := by decide
  have a1 : n - ((n / 2) &&& 1431655765) = dg2 16 n := by
    have q := st2 16 n h
    rw [k2] at q
    omega
  have a2 : (dg2 16 n &&& 858993459) + ((dg2 16 n / 4) &&& 858993459) = dg4 8 n := by rw [← k4]; exact st4 8 n
  have a3 : (dg4 8 n + dg4 8 n / 16) &&& 252645135 = dg8 4 n := by rw [← k8]; exact st8 4 n
  have e8 : dg8 4 n = cnt 8 n + 256 * (cnt 8 (hit 8 n) + 256 * (cnt 8 (hit 16 n) + 256 * (cnt 8 (hit 24 n) + 256 * 0))) := rfl
  have c1 : cnt 32 n = cnt 8 n + cnt 24 (hit 8 n) := cnt_add 8 24 n
  have c2 : cnt 24 (hit 8 n) = cnt 8 (hit 8 n) + cnt 16 (hit 16 n) := cnt_add 8 16 (hit 8 n)
  have c3 : cnt 16 (hit 16 n) = cnt 8 (hit 16 n) + cnt 8 (hit 24 n) := cnt_add 8 8 (hit 16 n)
  have b1 := cnt8_le n
  have b2 := cnt8_le (hit 8 n)
  have b3 := cnt8_le (hit 16 n)
  have b4 := cnt8_le (hit 24 n)
  unfold pcn
  dsimp only
  rw [a1, a2, a3, e8, c1, c2, c3]
  generalize cnt 8 n = p at b1 ⊢
  generalize cnt 8 (hit 8 n) = q at b2 ⊢
  generalize cnt 8 (hit 16 n) = r at b3 ⊢
  generalize cnt 8 (hit 24 n) = s at b4 ⊢
  have m6 : ∀ x : Nat, x &&& 63 = x % 64 := fun x => Nat.and_two_pow_sub_one_eq_mod x 6
  rw [m6]
  have f1 : (p + 256 * (q + 256 * (r + 256 * (s + 256 * 0)))) / 256 = q + 256 * (r + 256 * s) := by omega
  rw [f1]
  have f2 : (p + 256 * (q + 256 * (r + 256 * (s + 256 * 0))) + (q + 256 * (r + 256 * s))) / 65536 = r + s + 256 * s := by omega
  rw [f2]
  omega
/-! numbers for sets -/
theorem rbt_on (n : Nat) {i : Nat} (hi : i < 32) : rbt (Int32.ofNat n) i = n.testBit i := by
  show (BitVec.ofNat 32 n).getLsbD i = _
  rw [BitVec.getLsbD_ofNat]
  simp [hi]
theorem i_and (a c : Nat) : Int32.ofNat a &&& Int32.ofNat c = Int32.ofNat (a &&& c) := by
  apply rb_ext
  intro i hi
  rw [rb_and, rbt_on _ hi, rbt_on _ hi, rbt_on _ hi, Nat.testBit_and]
theorem i_shr {n k : Nat} (hn : n < 4294967296) (hk : k < 32) : ((Int32.ofNat n).toUInt32 >>> ((Int32.ofNat k).toUInt32 &&& Int32.toUInt32 31)).toInt32 = Int32.ofNat (n / 2 ^ k) := by
  apply rb_ext
  intro i hi
  rw [rb_ushr k hk, rbt_on _ hi, Nat.testBit_div_two_pow]
  by_cases h : k + i < 32
  · rw [rbt_on _ h, Nat.add_comm]
  · have h1 : rbt (Int32.ofNat n) (k + i) = false := BitVec.getLsbD_of_ge _ _ (by omega)
    rw [h1]
    symm
    apply Nat.testBit_lt_two_pow
    have q : 2 ^ 32 ≤ 2 ^ (i + k) := Nat.pow_le_pow_right (by decide) (by omega)
    exact Nat.lt_of_lt_of_le (show n < 2 ^ 32 from hn) q
theorem i_sub {a c : Nat} (h : c ≤ a) : Int32.ofNat a - Int32.ofNat c = Int32.ofNat (a - c) := by
  have e : Int32.ofNat a = Int32.ofNat (a - c) + Int32.ofNat c := by
    rw [← Int32.ofNat_add, show a - c + c = a by omega]
  rw [e, Int32.add_sub_cancel]
theorem i_add (a c : Nat) : Int32.ofNat a + Int32.ofNat c = Int32.ofNat (a + c) := (Int32.ofNat_add _ _).symm
theorem bc_on {n : Nat} (hn : n < 4294967296) : x_bitCount (Int32.ofNat n) = Int32.ofNat (pcn n) := by
  have p1 : 2 ^ 1 = 2 := rfl
  have p2 : 2 ^ 2 = 4 := rfl
  have p4 : 2 ^ 4 = 16 := rfl
  have p8 : 2 ^ 8 = 256 := rfl
  have p16 : 2 ^ 16 = 65536 := rfl
  have k2 : mk2 16 = 1431655765 := by decide
  have k4 : mk4 8 = 858993459 := by decide
  have k8 : mk8 4 = 252645135 := by decide
  have le1 : (n / 2) &&& 1431655765 ≤ n := Nat.le_trans Nat.and_le_left (by omega)
  have a1 : n - ((n / 2) &&& 1431655765) = dg2 16 n := by
    have q := st2 16 n hn
    rw [k2] at q
    omega
  have a2 : (dg2 16 n &&& 858993459) + ((dg2 16 n / 4) &&& 858993459) = dg4 8 n := by rw [← k4]; exact st4 8 n
  have a3 : (dg4 8 n + dg4 8 n / 16) &&& 252645135 = dg8 4 n := by rw [← k8]; exact st8 4 n
  have l1 : dg2 16 n < 4294967296 := by rw [← a1]; omega
  have l2 : dg4 8 n < 4294967296 := by
    rw [← a2]
    have q1 : dg2 16 n &&& 858993459 ≤ 858993459 := Nat.and_le_right
    have q2 : (dg2 16 n / 4) &&& 858993459 ≤ 858993459 := Nat.and_le_right
    omega
  have l3 : dg8 4 n ≤ 252645135 := by rw [← a3]; exact Nat.and_le_right
  unfold x_bitCount
  simp only [i_shr hn (show 1 < 32 by omega), i_and, p1]
  rw [i_sub le1, a1]
  simp only [i_shr l1 (show 2 < 32 by omega), i_and, p2, i_add]
  rw [a2]
  simp only [i_shr l2 (show 4 < 32 by omega), i_and, p4, i_add]
  rw [a3]
  simp only [i_shr (show dg8 4 n < 4294967296 by omega) (show 8 < 32 by omega), p8, i_add]
  simp only [i_shr (show dg8 4 n + dg8 4 n / 256 < 4294967296 by omega) (show 16 < 32 by omega), p16, i_add, i_and]
  unfold pcn
  dsimp only
  rw [a1, a2, a3]
theorem bit_on {n k : Nat} (hn : n < 4294967296) (hk : k < 32) : ((Int32.ofNat n).toUInt32 >>> ((Int32.ofNat k).toUInt32 &&& Int32.toUInt32 31)).toInt32 &&& Int32.ofNat 1 = Int32.ofNat (hit k n % 2) := by
  rw [i_shr hn hk, i_and, hit_d, show (n / 2 ^ k) &&& 1 = n / 2 ^ k % 2 from Nat.and_two_pow_sub_one_eq_mod _ 1]
theorem lbits_on {n : Nat} (hn : n < 4294967296) : ∀ (j a k : Nat), k + j = 32 → l_bits (Int32.ofNat n) j (Int32.ofNat a) k = Int32.ofNat (a + cnt j (hit k n)) := by
  intro j
  induction j with
  | zero => intro a k _; rfl
  | succ j ih =>
    intro a k hk
    rw [l_bits, bit_on hn (by omega), i_add, ih _ _ (by omega), hit_s]
    show Int32.ofNat (a + hit k n % 2 + cnt j (hit k n / 2)) = Int32.ofNat (a + (hit k n % 2 + cnt j (hit k n / 2)))
    rw [Nat.add_assoc]
theorem nat_of (x : Int32) : ∃ n, n < 4294967296 ∧ x = Int32.ofNat n := ⟨x.toBitVec.toNat, x.toBitVec.isLt, Int32.toBitVec_inj.mp (by show _ = BitVec.ofNat 32 _; simp)⟩
theorem bitCount_eq (x : Int32) : x_bitCount x = q_bits x := by
  obtain ⟨n, hn, e⟩ := nat_of x
  rw [e, bc_on hn, pcn_eq hn]
  unfold q_bits
  rw [lbits_on hn 32 0 0 rfl, Nat.zero_add]
  rfl
end
