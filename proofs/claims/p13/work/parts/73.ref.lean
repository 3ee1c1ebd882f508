/-! beside its own fields the reference's object leaves all rows but the world's -/
noncomputable def MF (m m' : Nat → Nat → Int32) : Prop := ∀ i, i ≠ 137 → m' i = m i
theorem MF.rf (m : Nat → Nat → Int32) : MF m m := fun _ _ => rfl
theorem MF.tr {a b c : Nat → Nat → Int32} (h : MF a b) (g : MF b c) : MF a c := fun i hi => (g i hi).trans (h i hi)
theorem MF.p (m : Nat → Nat → Int32) (k : Nat) (x : Int32) : MF m (zm2 m 137 k x) := fun i hi => if_neg hi
theorem itFalls_mf {m : Nat → Nat → Int32} {W : Nat → Int32} {t y : Nat} : MF m (q_itFalls m W t y).2 := MF.p m 5 _
theorem clears_mf {m : Nat → Nat → Int32} {W : Nat → Int32} {t : Nat} {s : Int32} : MF m (q_clears m W t s).2.2 := by
  unfold q_clears
  exact cndi (fun q : QT => MF m q.2.2) (MF.rf m) (MF.p m 5 _)
theorem reads_mf {m : Nat → Nat → Int32} {W : Nat → Int32} {t : Nat} {w : Int32} : MF m (q_reads m W t w).2.2 := by
  unfold q_reads
  have h := clears_mf (m := m) (W := W) (t := t) (s := q_clash W (Int32.ofNat t) (q_blockOf W w) (Int32.ofNat 0))
  generalize q_clears m W t (q_clash W (Int32.ofNat t) (q_blockOf W w) (Int32.ofNat 0)) = c at h ⊢
  exact cndi (fun q : QT => MF m q.2.2) (cndi (fun q : QT => MF m q.2.2) h h) h
theorem writesB_mf {m : Nat → Nat → Int32} {W : Nat → Int32} {t w : Nat} {v b g : Int32} : MF m (q_writesB m W t w v b g).2.2 := by
  unfold q_writesB
  have h := clears_mf (m := m) (W := W) (t := t) (s := q_clash W (Int32.ofNat t) b (Int32.ofNat 1))
  generalize q_clears m W t (q_clash W (Int32.ofNat t) b (Int32.ofNat 1)) = c at h ⊢
  exact cndi (fun q : QT => MF m q.2.2) (cndi (fun q : QT => MF m q.2.2) h h) h
theorem writes_mf {m : Nat → Nat → Int32} {W : Nat → Int32} {t w : Nat} {v : Int32} : MF m (q_writes m W t w v).2.2 := by
  unfold q_writes
  exact cndi (fun q : QT => MF m q.2.2) writesB_mf (cndi (fun q : QT => MF m q.2.2) writesB_mf (cndi (fun q : QT => MF m q.2.2) writesB_mf itFalls_mf))
theorem takesD_mf {m : Nat → Nat → Int32} {W : Nat → Int32} {t l w : Nat} {f : Int32} : MF m (q_takesD m W t l w f).2.2 := by
  unfold q_takesD
  exact cndi (fun q : QT => MF m q.2.2) itFalls_mf itFalls_mf
theorem takesC_mf {m : Nat → Nat → Int32} {W : Nat → Int32} {t l w : Nat} {f : Int32} : MF m (q_takesC m W t l w f).2.2 := by
  unfold q_takesC
  have aD := takesD_mf (m := m) (W := W) (t := t) (l := l) (w := w) (f := f)
  have aw := writes_mf (m := m) (W := W) (t := t) (w := w) (v := Int32.ofNat 1)
  generalize q_takesD m W t l w f = cD at aD ⊢
  generalize q_writes m W t w (Int32.ofNat 1) = cw at aw ⊢
  exact cndi (fun q : QT => MF m q.2.2) (cndi (fun q : QT => MF m q.2.2) (cndi (fun q : QT => MF m q.2.2) aw (cndi (fun q : QT => MF m q.2.2) aw (MF.rf m))) (MF.rf m)) (cndi (fun q : QT => MF m q.2.2) aD (cndi (fun q : QT => MF m q.2.2) (cndi (fun q : QT => MF m q.2.2) (MF.rf m) aw) aD))
theorem takesB_mf {m : Nat → Nat → Int32} {W : Nat → Int32} {t l w : Nat} : MF m (q_takesB m W t l w).2.2 := by
  unfold q_takesB
  exact cndi (fun q : QT => MF m q.2.2) takesC_mf takesC_mf
theorem takes_mf {m : Nat → Nat → Int32} {W : Nat → Int32} {t l : Nat} : MF m (q_takes m W t l).2.2 := by
  unfold q_takes
  have h := reads_mf (m := m) (W := W) (t := t) (w := Int32.ofNat (nv W (16 + l)))
  generalize q_reads m W t (Int32.ofNat (nv W (16 + l))) = c at h ⊢
  exact cndi (fun q : QT => MF m q.2.2) (h.tr takesB_mf) h
theorem drops_mf {m : Nat → Nat → Int32} {W : Nat → Int32} {t l : Nat} : MF m (q_drops m W t l).2.2 := by
  unfold q_drops
  have h := writes_mf (m := m) (W := W) (t := t) (w := nv W (16 + l)) (v := Int32.ofNat 0)
  have g := itFalls_mf (m := m) (W := W) (t := t) (y := 2)
  generalize q_writes m W t (nv W (16 + l)) (Int32.ofNat 0) = c at h ⊢
  generalize q_itFalls m W t 2 = c2 at g ⊢
  exact cndi (fun q : QT => MF m q.2.2) (cndi (fun q : QT => MF m q.2.2) (cndi (fun q : QT => MF m q.2.2) (MF.rf m) (MF.rf m)) g) (cndi (fun q : QT => MF m q.2.2) (cndi (fun q : QT => MF m q.2.2) h h) (cndi (fun q : QT => MF m q.2.2) h h))
theorem putsOut_mf {m : Nat → Nat → Int32} {W : Nat → Int32} {t : Nat} : MF m (q_putsOut m W t).2.2 := by
  unfold q_putsOut
  have g := itFalls_mf (m := m) (W := W) (t := t) (y := 3)
  generalize q_itFalls m W t 3 = c2 at g ⊢
  exact cndi (fun q : QT => MF m q.2.2) (cndi (fun q : QT => MF m q.2.2) (MF.rf m) (MF.rf m)) g
theorem does_mf {m : Nat → Nat → Int32} {W : Nat → Int32} {t K n : Nat} (hK : K < 8) : MF m (q_does m W t K n).2.2 := by
  match K, hK with
  | 0, _ => exact takes_mf
  | 1, _ => exact drops_mf
  | 2, _ =>
    show MF m (q_does2 m W t n).2.2
    unfold q_does2
    have h := reads_mf (m := m) (W := W) (t := t) (w := Int32.ofNat n)
    generalize q_reads m W t (Int32.ofNat n) = c at h ⊢
    exact cndi (fun q : QT => MF m q.2.2) h h
  | 3, _ => exact writes_mf
  | 4, _ => exact MF.rf m
  | 5, _ => exact MF.rf m
  | 6, _ => exact MF.rf m
  | 7, _ => exact putsOut_mf
theorem stepsD_mf {m : Nat → Nat → Int32} {W : Nat → Int32} {t : Nat} {on : Int32} : MF m (q_stepsD m W t on).2.2 := by
  unfold q_stepsD
  have g := itFalls_mf (m := m) (W := W) (t := t) (y := 2)
  generalize q_itFalls m W t 2 = c2 at g ⊢
  exact cndi (fun q : QT => MF m q.2.2) (MF.rf m) (cndi (fun q : QT => MF m q.2.2) (MF.rf m) g)
theorem steps_mf {m : Nat → Nat → Int32} {W : Nat → Int32} {t : Nat} (h : KG W t) (ht : t < 4) : MF m (q_steps m W t).2.2 := by
  unfold q_steps
  have g := (MF.p m 5 (Int32.ofNat 0)).tr (does_mf (m := zm2 m 137 5 (Int32.ofNat 0)) (W := W) (t := t) (n := nv W (376 + 103 * t + (55 + 2 * nv W (376 + 103 * t + 0) + 1))) (Nat.lt_succ_of_le (h.deed ht).2.1.2.2))
  generalize q_does (zm2 m 137 5 (Int32.ofNat 0)) W t (nv W (376 + 103 * t + (55 + 2 * nv W (376 + 103 * t + 0)))) (nv W (376 + 103 * t + (55 + 2 * nv W (376 + 103 * t + 0) + 1))) = c at g ⊢
  exact cndi (fun q : QT => MF m q.2.2) g (g.tr stepsD_mf)
theorem goesT_mf {q : Nat} : ∀ (n k : Nat) (W : Nat → Int32) (m : Nat → Nat → Int32), WG W → LT W → MF m (l_goesT q n k W m).2.2 := by
  intro n
  induction n with
  | zero => intro k W m h hL; exact MF.rf m
  | succ n ih =>
    intro k W m h hL
    rw [l_goesT]
    refine cndh (fun q : QT => MF m q.2.2) (fun _ => MF.rf m) (fun hc => cndi (fun q : QT => MF m q.2.2) (MF.rf m) ?_)
    obtain ⟨-, n4, nk⟩ := next_n h hL hc
    have hs := steps_ok (m := m) nk n4
    exact (steps_mf nk n4).tr (ih _ _ _ hs.1 (LT_of hs.2 n4))
theorem WG_of {W V : Nat → Int32} (h : WG W) (e : ∀ k, k < 788 → V k = W k) : WG V :=
  ⟨h.1.of (fun j hj _ => e _ (by omega)) (WC_of (e _ (by omega)) h.C), fun t ht => (h.2 t ht).same (fun c hc _ => e _ (by omega))⟩
theorem LT_eq {W V : Nat → Int32} (h : LT W) (e : V 12 = W 12) : LT V := by
  unfold LT lt1 at *
  rw [e]; exact h
theorem goesT1_ok {W : Nat → Int32} {m : Nat → Nat → Int32} (h : WG W) (hL : LT W) : WG (q_goesT m W 1).2.1 ∧ LT (q_goesT m W 1).2.1 ∧ MF m (q_goesT m W 1).2.2 := ⟨(goesT_ok _ _ _ _ h hL).1, (goesT_ok _ _ _ _ h hL).2, goesT_mf _ _ _ _ h hL⟩
theorem dueOfX_ok : ∀ (n k : Nat) (W : Nat → Int32) (m : Nat → Nat → Int32), WG W → LT W → MF m (l_dueOfX n k W m).2.2 := by
  intro n
  induction n with
  | zero => intro k W m h hL; exact MF.rf m
  | succ n ih =>
    intro k W m h hL
    rw [l_dueOfX]
    have a := goesT1_ok (m := m) h hL
    generalize q_goesT m W 1 = c at a ⊢
    exact cndi (fun q : QT => MF m q.2.2) (cndi (fun q : QT => MF m q.2.2) (ih _ _ _ h hL) (cndi (fun q : QT => MF m q.2.2) (MF.rf m) (cndi (fun q : QT => MF m q.2.2) (a.2.2.tr (ih _ _ _ a.1 a.2.1)) a.2.2))) (MF.rf m)
theorem dueOf_ok {t : Nat} : ∀ (n k : Nat) (W : Nat → Int32) (m : Nat → Nat → Int32), WG W → LT W → MF m (l_dueOf t n k W m).2.2 := by
  intro n
  induction n with
  | zero => intro k W m h hL; exact MF.rf m
  | succ n ih =>
    intro k W m h hL
    rw [l_dueOf]
    have a := goesT1_ok (m := m) h hL
    generalize q_goesT m W 1 = c at a ⊢
    exact cndi (fun q : QT => MF m q.2.2) (cndi (fun q : QT => MF m q.2.2) (ih _ _ _ h hL) (cndi (fun q : QT => MF m q.2.2) (MF.rf m) (cndi (fun q : QT => MF m q.2.2) (a.2.2.tr (ih _ _ _ a.1 a.2.1)) a.2.2))) (MF.rf m)
/-- behind a look ahead the world is as it was -/
theorem crow_back {W V : Nat → Int32} {m m' : Nat → Nat → Int32} (h : MF (zrow m 140 (crow W (m 140))) m') : ∀ k, k < 788 → crow (m' 140) V k = W k := by
  intro k hk
  unfold crow
  rw [if_pos hk, h 140 (by decide), zrow_at]
  exact if_pos hk
theorem dueBy_ok {W : Nat → Int32} {m : Nat → Nat → Int32} {b : Nat} (h : WG W) (hL : LT W) : ∀ k, k < 788 → (q_dueBy m W b).2.1 k = W k := crow_back (dueOfX_ok _ _ _ _ (h.need _) (hL.put _ (by omega)))
noncomputable def l_quickest (x : Int32) : Nat → Int32 → Int32 → Nat → (Nat → Int32) → (Nat → Nat → Int32) → Int32 × (Nat → Int32) × (Nat → Nat → Int32)
  | 0, b, l, k, W, m => (bif zc1 .ne x then (l, W, m) else (b, W, m))
  | n + 1, b, l, k, W, m => (bif zc2 .eq (q_dueBy m W k).1 (-1) then (l_quickest x n b l ((k + 1)) ((q_dueBy m W k).2.1) ((q_dueBy m W k).2.2)) else (bif zc2 .eq l (-1) then (l_quickest x n ((Int32.ofNat k)) ((q_dueBy m W k).1) ((k + 1)) ((q_dueBy m W k).2.1) ((q_dueBy m W k).2.2)) else (bif zc2 .lt (q_dueBy m W k).1 l then (l_quickest x n ((Int32.ofNat k)) ((q_dueBy m W k).1) ((k + 1)) ((q_dueBy m W k).2.1) ((q_dueBy m W k).2.2)) else (l_quickest x n b l ((k + 1)) ((q_dueBy m W k).2.1) ((q_dueBy m W k).2.2)))))
theorem w_quickest {σ : Nat → Nat × (Nat → Int32)} {yy : (Nat → Nat → Int64) × Bool × Nat × Nat} {x : Int32} {d : Nat} (hd : 13 ≤ d + 1) : ∀ (n : Nat) (b : Int32) (l : Int32) (k : Nat) (x5 : Option Value) (W : Nat → Int32) (m : Nat → Nat → Int32), k + n = 17 → WG W → LT W → zEv σ (d + 1) 1892 36 [some (.ref 137), some (.int x), some (.int b), some (.int l), some (.int (Int32.ofNat k)), x5] [] (zS1, zrow m 138 W, yy) (.inl (some (.int (l_quickest x n b l k W m).1))) (zS1, zrow ((l_quickest x n b l k W m).2.2) 138 ((l_quickest x n b l k W m).2.1), yy) := by
  intro n
  induction n with
  | zero =>
    intro b l k x5 W m hk hw hL
    refine zeP rfl rfl ?_
    refine zeKn (c := 16) rfl rfl rfl ?_
    refine zeT2 rfl rfl (zcgt (by omega) (by omega) (by omega)) ?_
    refine zeP rfl rfl ?_
    refine zeB1 rfl rfl (fun h1 => ?_) (fun h1 => ?_)
    · refine zeP rfl rfl ?_
      exact zeRe rfl rfl rfl rfl (by simp only [l_quickest, h1, cond_true, cond_false] <;> rfl) (by simp only [l_quickest, h1, cond_true, cond_false] <;> rfl)
    · refine zeP rfl rfl ?_
      refine zeP rfl rfl ?_
      exact zeRe rfl rfl rfl rfl (by simp only [l_quickest, h1, cond_true, cond_false] <;> rfl) (by simp only [l_quickest, h1, cond_true, cond_false] <;> rfl)
  | succ n ih =>
    intro b l k x5 W m hk hw hL
    refine zeP rfl rfl ?_
    refine zeKn (c := 16) rfl rfl rfl ?_
    refine zeF2 rfl rfl (zcgt_f (by omega) (by omega) (by omega)) ?_
    refine zeP rfl rfl ?_
    refine zeP rfl rfl ?_
    refine zeCF rfl rfl rfl rfl rfl rfl (c_dueBy (m := m) (W := W) (b := k) hw hL) (by omega) ?_
    dsimp only [Option.toList, List.cons_append, List.nil_append]
    refine zeP rfl rfl ?_
    refine zeP rfl rfl ?_
    refine zeK (v := -1) rfl rfl rfl ?_
    refine zeB2 rfl rfl (fun h1 => ?_) (fun h1 => ?_)
    · refine zeInc rfl rfl ?_
      refine zeP rfl rfl ?_
      simp only [l_quickest, h1, cond_true, cond_false]
      exact ih (b) (l) ((k + 1)) (some (.int (q_dueBy m W k).1)) ((q_dueBy m W k).2.1) ((q_dueBy m W k).2.2) (by omega) (WG_of hw (dueBy_ok hw hL)) (LT_eq hL (dueBy_ok hw hL 12 (by omega)))
    · refine zeP rfl rfl ?_
      refine zeK (v := -1) rfl rfl rfl ?_
      refine zeB2 rfl rfl (fun h2 => ?_) (fun h2 => ?_)
      · refine zeP rfl rfl ?_
        refine zeP rfl rfl ?_
        refine zeP rfl rfl ?_
        refine zeP rfl rfl ?_
        refine zeInc rfl rfl ?_
        refine zeP rfl rfl ?_
        simp only [l_quickest, h1, h2, cond_true, cond_false]
        exact ih ((Int32.ofNat k)) ((q_dueBy m W k).1) ((k + 1)) (some (.int (q_dueBy m W k).1)) ((q_dueBy m W k).2.1) ((q_dueBy m W k).2.2) (by omega) (WG_of hw (dueBy_ok hw hL)) (LT_eq hL (dueBy_ok hw hL 12 (by omega)))
      · refine zeP rfl rfl ?_
        refine zeP rfl rfl ?_
        refine zeB2 rfl rfl (fun h3 => ?_) (fun h3 => ?_)
        · refine zeP rfl rfl ?_
          refine zeP rfl rfl ?_
          refine zeP rfl rfl ?_
          refine zeP rfl rfl ?_
          refine zeInc rfl rfl ?_
          refine zeP rfl rfl ?_
          simp only [l_quickest, h1, h2, h3, cond_true, cond_false]
          exact ih ((Int32.ofNat k)) ((q_dueBy m W k).1) ((k + 1)) (some (.int (q_dueBy m W k).1)) ((q_dueBy m W k).2.1) ((q_dueBy m W k).2.2) (by omega) (WG_of hw (dueBy_ok hw hL)) (LT_eq hL (dueBy_ok hw hL 12 (by omega)))
        · refine zeP rfl rfl ?_
          refine zeInc rfl rfl ?_
          refine zeP rfl rfl ?_
          simp only [l_quickest, h1, h2, h3, cond_true, cond_false]
          exact ih (b) (l) ((k + 1)) (some (.int (q_dueBy m W k).1)) ((q_dueBy m W k).2.1) ((q_dueBy m W k).2.2) (by omega) (WG_of hw (dueBy_ok hw hL)) (LT_eq hL (dueBy_ok hw hL 12 (by omega)))
noncomputable def q_quickest (m : Nat → Nat → Int32) (W : Nat → Int32) (x : Int32) : Int32 × (Nat → Int32) × (Nat → Nat → Int32) := (bif zc1 .ne (q_in x ((Int32.ofNat 0)) ((Int32.ofNat 1))) then (l_quickest x 17 ((-1)) ((-1)) 0 W ((zm2 m 137 0 (Int32.ofNat 0)))) else ((Int32.ofNat 0), W, (q_thr1 ((zm2 m 137 0 (Int32.ofNat 0))) 1).2))
theorem p_quickest {σ : Nat → Nat × (Nat → Int32)} {yy : (Nat → Nat → Int64) × Bool × Nat × Nat} {m : Nat → Nat → Int32} {W : Nat → Int32} {x : Int32} {d : Nat} (hd : 13 ≤ d + 1) (hw : WG W) (hL : LT W) : zEv σ (d + 1) 1892 0 [some (.ref 137), some (.int x), none, none, none, none] [] (zS1, zrow m 138 W, yy) (.inl (some (.int (q_quickest m W x).1))) (zS1, zrow ((q_quickest m W x).2.2) 138 ((q_quickest m W x).2.1), yy) := by
  refine zeP rfl rfl ?_
  refine zeKn (c := 0) rfl rfl rfl ?_
  refine zeFP rfl rfl rfl ?_
  refine zeP rfl rfl ?_
  refine zeP rfl rfl ?_
  refine zeKn (c := 0) rfl rfl rfl ?_
  refine zeKn (c := 1) rfl rfl rfl ?_
  refine zeCF rfl rfl rfl rfl rfl rfl (c_in (m := (zm2 m 137 0 (Int32.ofNat 0))) (W := W) (v := x) (lo := (Int32.ofNat 0)) (hi := (Int32.ofNat 1)) ) (by omega) ?_
  dsimp only [Option.toList, List.cons_append, List.nil_append]
  refine zeB1 rfl rfl (fun h1 => ?_) (fun h1 => ?_)
  · refine zeKn (c := 0) rfl rfl rfl ?_
    refine zeKn (c := 1) rfl rfl rfl ?_
    refine zeCF rfl rfl rfl rfl rfl rfl (c_thr0 (m := (zm2 m 137 0 (Int32.ofNat 0))) (W := W) (c := 1) ) (by omega) ?_
    dsimp only [Option.toList, List.cons_append, List.nil_append]
    refine zeT1 rfl rfl (show zc1 .eq (Int32.ofNat 0) = true by decide) ?_
    refine zeK (v := -1) rfl rfl rfl ?_
    refine zeP rfl rfl ?_
    refine zeK (v := -1) rfl rfl rfl ?_
    refine zeP rfl rfl ?_
    refine zeKn (c := 0) rfl rfl rfl ?_
    refine zeP rfl rfl ?_
    simp only [q_quickest, h1, cond_true, cond_false]
    exact w_quickest (x := x) (by omega)  17 ((-1)) ((-1)) (0) (none) W ((zm2 m 137 0 (Int32.ofNat 0))) (by omega) hw hL
  · refine zeKn (c := 1) rfl rfl rfl ?_
    refine zeP rfl rfl ?_
    refine zeKn (c := 1) rfl rfl rfl ?_
    refine zeCF rfl rfl rfl rfl rfl rfl (c_thr1 (m := (zm2 m 137 0 (Int32.ofNat 0))) (W := W) (c := 1) ) (by omega) ?_
    dsimp only [Option.toList, List.cons_append, List.nil_append]
    refine zeF1 rfl rfl (show zc1 .eq (Int32.ofNat 1) = false by decide) ?_
    refine zeKn (c := 0) rfl rfl rfl ?_
    exact zeRe rfl rfl rfl rfl (by simp only [q_quickest, h1, cond_true, cond_false] <;> rfl) (by simp only [q_quickest, h1, cond_true, cond_false] <;> rfl)
theorem c_quickest {σ : Nat → Nat × (Nat → Int32)} {yy : (Nat → Nat → Int64) × Bool × Nat × Nat} {m : Nat → Nat → Int32} {W : Nat → Int32} {x : Int32} (hw : WG W) (hL : LT W) : zF σ 13 1892 [.ref 137, .int x] (zS1, zrow m 138 W, yy) (.inl (some (.int (q_quickest m W x).1))) (zS1, zrow ((q_quickest m W x).2.2) 138 ((q_quickest m W x).2.1), yy) := by
  intro d hd
  obtain ⟨d, rfl⟩ : ∃ k, d = k + 1 := ⟨d - 1, by omega⟩
  exact p_quickest hd hw hL
