/-! es.mark et.lr eu.ask ev.ask2 ew.call ex.texts ey.ahead ez.tape ezm.machine -/
section
/-! the mark of what was thrown stays through steps -/
noncomputable def M0 (m m' : Nat → Nat → Int32) : Prop := m' 137 0 = m 137 0
theorem M0.rf (m : Nat → Nat → Int32) : M0 m m := rfl
theorem M0.tr {a b c : Nat → Nat → Int32} (h : M0 a b) (g : M0 b c) : M0 a c := Eq.trans g h
theorem M0.p5 (m : Nat → Nat → Int32) (x : Int32) : M0 m (zm2 m 137 5 x) := zx_nk _ _ (by decide)
theorem M0.z140 (m : Nat → Nat → Int32) (V : Nat → Int32) : M0 m (zrow m 140 V) := congrFun (if_neg (by decide)) 0
theorem itFalls_m0 {m : Nat → Nat → Int32} {W : Nat → Int32} {t y : Nat} : M0 m (q_itFalls m W t y).2 := M0.p5 m _
theorem clears_m0 {m : Nat → Nat → Int32} {W : Nat → Int32} {t : Nat} {s : Int32} : M0 m (q_clears m W t s).2.2 := by
  unfold q_clears
  exact cndi (fun q : QT => M0 m q.2.2) (M0.rf m) (M0.p5 m _)
theorem reads_m0 {m : Nat → Nat → Int32} {W : Nat → Int32} {t : Nat} {w : Int32} : M0 m (q_reads m W t w).2.2 := by
  unfold q_reads
  have h := clears_m0 (m := m) (W := W) (t := t) (s := q_clash W (Int32.ofNat t) (q_blockOf W w) (Int32.ofNat 0))
  generalize q_clears m W t (q_clash W (Int32.ofNat t) (q_blockOf W w) (Int32.ofNat 0)) = c at h ⊢
  exact cndi (fun q : QT => M0 m q.2.2) (cndi (fun q : QT => M0 m q.2.2) h h) h
theorem writesB_m0 {m : Nat → Nat → Int32} {W : Nat → Int32} {t w : Nat} {v b g : Int32} : M0 m (q_writesB m W t w v b g).2.2 := by
  unfold q_writesB
  have h := clears_m0 (m := m) (W := W) (t := t) (s := q_clash W (Int32.ofNat t) b (Int32.ofNat 1))
  generalize q_clears m W t (q_clash W (Int32.ofNat t) b (Int32.ofNat 1)) = c at h ⊢
  exact cndi (fun q : QT => M0 m q.2.2) (cndi (fun q : QT => M0 m q.2.2) h h) h
theorem writes_m0 {m : Nat → Nat → Int32} {W : Nat → Int32} {t w : Nat} {v : Int32} : M0 m (q_writes m W t w v).2.2 := by
  unfold q_writes
  exact cndi (fun q : QT => M0 m q.2.2) writesB_m0 (cndi (fun q : QT => M0 m q.2.2) writesB_m0 (cndi (fun q : QT => M0 m q.2.2) writesB_m0 itFalls_m0))
theorem takesD_m0 {m : Nat → Nat → Int32} {W : Nat → Int32} {t l w : Nat} {f : Int32} : M0 m (q_takesD m W t l w f).2.2 := by
  unfold q_takesD
  exact cndi (fun q : QT => M0 m q.2.2) itFalls_m0 itFalls_m0
theorem takesC_m0 {m : Nat → Nat → Int32} {W : Nat → Int32} {t l w : Nat} {f : Int32} : M0 m (q_takesC m W t l w f).2.2 := by
  unfold q_takesC
  have aD := takesD_m0 (m := m) (W := W) (t := t) (l := l) (w := w) (f := f)
  have aw := writes_m0 (m := m) (W := W) (t := t) (w := w) (v := Int32.ofNat 1)
  generalize q_takesD m W t l w f = cD at aD ⊢
  generalize q_writes m W t w (Int32.ofNat 1) = cw at aw ⊢
  exact cndi (fun q : QT => M0 m q.2.2) (cndi (fun q : QT => M0 m q.2.2) (cndi (fun q : QT => M0 m q.2.2) aw (cndi (fun q : QT => M0 m q.2.2) aw (M0.rf m))) (M0.rf m)) (cndi (fun q : QT => M0 m q.2.2) aD (cndi (fun q : QT => M0 m q.2.2) (cndi (fun q : QT => M0 m q.2.2) (M0.rf m) aw) aD))
theorem takesB_m0 {m : Nat → Nat → Int32} {W : Nat → Int32} {t l w : Nat} : M0 m (q_takesB m W t l w).2.2 := by
  unfold q_takesB
  exact cndi (fun q : QT => M0 m q.2.2) takesC_m0 takesC_m0
theorem takes_m0 {m : Nat → Nat → Int32} {W : Nat → Int32} {t l : Nat} : M0 m (q_takes m W t l).2.2 := by
  unfold q_takes
  have h := reads_m0 (m := m) (W := W) (t := t) (w := Int32.ofNat (nv W (16 + l)))
  generalize q_reads m W t (Int32.ofNat (nv W (16 + l))) = c at h ⊢
  exact cndi (fun q : QT => M0 m q.2.2) (h.tr takesB_m0) h
theorem drops_m0 {m : Nat → Nat → Int32} {W : Nat → Int32} {t l : Nat} : M0 m (q_drops m W t l).2.2 := by
  unfold q_drops
  have h := writes_m0 (m := m) (W := W) (t := t) (w := nv W (16 + l)) (v := Int32.ofNat 0)
  have g := itFalls_m0 (m := m) (W := W) (t := t) (y := 2)
  generalize q_writes m W t (nv W (16 + l)) (Int32.ofNat 0) = c at h ⊢
  generalize q_itFalls m W t 2 = c2 at g ⊢
  exact cndi (fun q : QT => M0 m q.2.2) (cndi (fun q : QT => M0 m q.2.2) (cndi (fun q : QT => M0 m q.2.2) (M0.rf m) (M0.rf m)) g) (cndi (fun q : QT => M0 m q.2.2) (cndi (fun q : QT => M0 m q.2.2) h h) (cndi (fun q : QT => M0 m q.2.2) h h))
theorem putsOut_m0 {m : Nat → Nat → Int32} {W : Nat → Int32} {t : Nat} : M0 m (q_putsOut m W t).2.2 := by
  unfold q_putsOut
  have g := itFalls_m0 (m := m) (W := W) (t := t) (y := 3)
  generalize q_itFalls m W t 3 = c2 at g ⊢
  exact cndi (fun q : QT => M0 m q.2.2) (cndi (fun q : QT => M0 m q.2.2) (M0.rf m) (M0.rf m)) g
theorem does_m0 {m : Nat → Nat → Int32} {W : Nat → Int32} {t K n : Nat} (hK : K < 8) : M0 m (q_does m W t K n).2.2 := by
  match K, hK with
  | 0, _ => exact takes_m0
  | 1, _ => exact drops_m0
  | 2, _ =>
    show M0 m (q_does2 m W t n).2.2
    unfold q_does2
    have h := reads_m0 (m := m) (W := W) (t := t) (w := Int32.ofNat n)
    generalize q_reads m W t (Int32.ofNat n) = c at h ⊢
    exact cndi (fun q : QT => M0 m q.2.2) h h
  | 3, _ => exact writes_m0
  | 4, _ => exact M0.rf m
  | 5, _ => exact M0.rf m
  | 6, _ => exact M0.rf m
  | 7, _ => exact putsOut_m0
theorem stepsD_m0 {m : Nat → Nat → Int32} {W : Nat → Int32} {t : Nat} {on : Int32} : M0 m (q_stepsD m W t on).2.2 := by
  unfold q_stepsD
  have g := itFalls_m0 (m := m) (W := W) (t := t) (y := 2)
  generalize q_itFalls m W t 2 = c2 at g ⊢
  exact cndi (fun q : QT => M0 m q.2.2) (M0.rf m) (cndi (fun q : QT => M0 m q.2.2) (M0.rf m) g)
theorem steps_m0 {m : Nat → Nat → Int32} {W : Nat → Int32} {t : Nat} (h : KG W t) (ht : t < 4) : M0 m (q_steps m W t).2.2 := by
  unfold q_steps
  have g := (M0.p5 m (Int32.ofNat 0)).tr (does_m0 (m := zm2 m 137 5 (Int32.ofNat 0)) (W := W) (t := t) (n := nv W (376 + 103 * t + (55 + 2 * nv W (376 + 103 * t + 0) + 1))) (Nat.lt_succ_of_le (h.deed ht).2.1.2.2))
  generalize q_does (zm2 m 137 5 (Int32.ofNat 0)) W t (nv W (376 + 103 * t + (55 + 2 * nv W (376 + 103 * t + 0)))) (nv W (376 + 103 * t + (55 + 2 * nv W (376 + 103 * t + 0) + 1))) = c at g ⊢
  exact cndi (fun q : QT => M0 m q.2.2) g (g.tr stepsD_m0)
theorem goesT_m0 {q : Nat} : ∀ (n k : Nat) (W : Nat → Int32) (m : Nat → Nat → Int32), WG W → LT W → M0 m (l_goesT q n k W m).2.2 := by
  intro n
  induction n with
  | zero => intro k W m h hL; exact M0.rf m
  | succ n ih =>
    intro k W m h hL
    rw [l_goesT]
    refine cndh (fun q : QT => M0 m q.2.2) (fun _ => M0.rf m) (fun hc => cndi (fun q : QT => M0 m q.2.2) (M0.rf m) ?_)
    obtain ⟨-, n4, nk⟩ := next_n h hL hc
    have hs := steps_ok (m := m) nk n4
    exact (steps_m0 nk n4).tr (ih _ _ _ hs.1 (LT_of hs.2 n4))
theorem goesT1_m0 {W : Nat → Int32} {m : Nat → Nat → Int32} (h : WG W) (hL : LT W) : WG (q_goesT m W 1).2.1 ∧ LT (q_goesT m W 1).2.1 ∧ M0 m (q_goesT m W 1).2.2 := ⟨(goesT_ok _ _ _ _ h hL).1, (goesT_ok _ _ _ _ h hL).2, goesT_m0 _ _ _ _ h hL⟩
theorem dueOfX_m0 : ∀ (n k : Nat) (W : Nat → Int32) (m : Nat → Nat → Int32), WG W → LT W → M0 m (l_dueOfX n k W m).2.2 := by
  intro n
  induction n with
  | zero => intro k W m h hL; exact M0.rf m
  | succ n ih =>
    intro k W m h hL
    rw [l_dueOfX]
    have a := goesT1_m0 (m := m) h hL
    generalize q_goesT m W 1 = c at a ⊢
    exact cndi (fun q : QT => M0 m q.2.2) (cndi (fun q : QT => M0 m q.2.2) (ih _ _ _ h hL) (cndi (fun q : QT => M0 m q.2.2) (M0.rf m) (cndi (fun q : QT => M0 m q.2.2) (a.2.2.tr (ih _ _ _ a.1 a.2.1)) a.2.2))) (M0.rf m)
theorem dueOf_m0 {t : Nat} : ∀ (n k : Nat) (W : Nat → Int32) (m : Nat → Nat → Int32), WG W → LT W → M0 m (l_dueOf t n k W m).2.2 := by
  intro n
  induction n with
  | zero => intro k W m h hL; exact M0.rf m
  | succ n ih =>
    intro k W m h hL
    rw [l_dueOf]
    have a := goesT1_m0 (m := m) h hL
    generalize q_goesT m W 1 = c at a ⊢
    exact cndi (fun q : QT => M0 m q.2.2) (cndi (fun q : QT => M0 m q.2.2) (ih _ _ _ h hL) (cndi (fun q : QT => M0 m q.2.2) (M0.rf m) (cndi (fun q : QT => M0 m q.2.2) (a.2.2.tr (ih _ _ _ a.1 a.2.1)) a.2.2))) (M0.rf m)
theorem goesD_m0 {q : Nat} : ∀ (n k : Nat) (W : Nat → Int32) (m : Nat → Nat → Int32), WG W → LT W → M0 m (l_goesD q n k W m).2.2 := by
  intro n
  induction n with
  | zero => intro k W m h hL; exact M0.rf m
  | succ n ih =>
    intro k W m h hL
    rw [l_goesD]
    refine cndh (fun q : QT => M0 m q.2.2) (fun _ => M0.rf m) (fun hc => cndi (fun q : QT => M0 m q.2.2) (M0.rf m) ?_)
    obtain ⟨-, n4, nk⟩ := drawn_n h hc
    have hs := steps_ok (m := m) nk n4
    exact (steps_m0 nk n4).tr (ih _ _ _ hs.1 (LT_of hs.2 n4))
theorem dueBy_m0 {W : Nat → Int32} {m : Nat → Nat → Int32} {b : Nat} (h : WG W) (hL : LT W) : M0 m (q_dueBy m W b).2.2 := (M0.z140 m _).tr (dueOfX_m0 _ _ _ _ (h.need _) (hL.put _ (by omega)))
end
section
/-! what the law keeps; answers alike; ranges -/
noncomputable def rg (v : Int32) (a b : Int) : Bool := decide (a ≤ v.toInt ∧ v.toInt < b)
theorem in_rg (v x y : Int32) : zc1 .ne (q_in v x y) = rg v x.toInt (y.toInt + 1) := by
  have e1 : zc2 .lt v x = decide (v < x) := rfl
  have e2 : zc2 .gt v y = decide (y < v) := rfl
  unfold q_in rg
  rw [e1, e2]
  by_cases h1 : v < x
  · rw [decide_eq_true h1, cnT, zne0]
    rw [Int32.lt_iff_toInt_lt] at h1
    exact (decide_eq_false (by omega)).symm
  · rw [decide_eq_false h1, cnF]
    rw [Int32.lt_iff_toInt_lt] at h1
    by_cases h2 : y < v
    · rw [decide_eq_true h2, cnT, zne0]
      rw [Int32.lt_iff_toInt_lt] at h2
      exact (decide_eq_false (by omega)).symm
    · rw [decide_eq_false h2, cnF, zn1]
      rw [Int32.lt_iff_toInt_lt] at h2
      exact (decide_eq_true (by omega)).symm
theorem zeq_n (z : Int32) : zc1 .eq z = !(zc1 .ne z) := by rw [zne_n, Bool.not_not]
theorem rg_n {v : Int32} {n : Int} (h : rg v 0 n = true) : v = Int32.ofNat v.toNatClampNeg ∧ (v.toNatClampNeg : Int) < n := by
  have a := of_decide_eq_true h
  obtain ⟨b, c⟩ := nat_ge (x := v) a.1
  exact ⟨b, by omega⟩
theorem lt_rg (v : Int32) {x : Int32} : (!zc1 .lt v && zc2 .lt v x) = rg v 0 x.toInt := by
  have e1 : zc1 .lt v = decide (v < 0) := rfl
  have e2 : zc2 .lt v x = decide (v < x) := rfl
  unfold rg
  rw [e1, e2, Bool.decide_and]
  congr 1
  · rw [← decide_not]
    refine decide_eq_decide.mpr ?_
    rw [Int32.lt_iff_toInt_lt, Int32.toInt_zero]
    omega
  · exact decide_eq_decide.mpr (Int32.lt_iff_toInt_lt)
theorem sOK_rg (m : Nat → Nat → Int32) (t : Int32) : sOK m t = rg t 0 (m 1 5).toInt := lt_rg t
theorem wOK_rg (t : Int32) : wOK t = rg t 0 32 := lt_rg t
theorem tOK_rg (v : Int32) : tOK v = rg v 0 2 := by
  have e1 : zc1 .lt v = decide (v < 0) := rfl
  have e2 : zc2 .le v (Int32.ofNat 1) = decide (v ≤ Int32.ofNat 1) := rfl
  unfold tOK rg
  rw [e1, e2, Bool.decide_and]
  congr 1
  · rw [← decide_not]
    refine decide_eq_decide.mpr ?_
    rw [Int32.lt_iff_toInt_lt, Int32.toInt_zero]
    omega
  · refine decide_eq_decide.mpr ?_
    rw [Int32.le_iff_toInt_le, zoN (by omega)]
    omega
theorem kOK_rg (v : Int32) : kOK v = rg v 1 101 := by
  have e1 : zc2 .lt v (Int32.ofNat 1) = decide (v < Int32.ofNat 1) := rfl
  have e2 : zc2 .le v (Int32.ofNat 100) = decide (v ≤ Int32.ofNat 100) := rfl
  unfold kOK rg
  rw [e1, e2, Bool.decide_and]
  congr 1
  · rw [← decide_not]
    refine decide_eq_decide.mpr ?_
    rw [Int32.lt_iff_toInt_lt, zoN (by omega)]
    omega
  · refine decide_eq_decide.mpr ?_
    rw [Int32.le_iff_toInt_le, zoN (by omega)]
    omega
/-- an answer of the class, the reference's mark and answer -/
noncomputable def AN (L : List Nat) (Y : Int32 ⊕ Nat) (c v : Int32) : Prop := match Y with
  | .inl w => c = Int32.ofNat 0 ∧ w = v
  | .inr e => ∃ i, L[i]? = some e ∧ c = Int32.ofNat (i + 1)
theorem AN.v {L : List Nat} {w c v : Int32} (h1 : c = Int32.ofNat 0) (h2 : w = v) : AN L (.inl w) c v := ⟨h1, h2⟩
theorem AN.x {L : List Nat} {e : Nat} {c v : Int32} (i : Nat) (h1 : L[i]? = some e) (h2 : c = Int32.ofNat (i + 1)) : AN L (.inr e) c v := ⟨i, h1, h2⟩
/-- at most twelve texts -/
noncomputable def TX (W : Nat → Int32) : Prop := ok W 10 0 12
/-- what the law keeps of both sides -/
noncomputable def LR (m : Nat → Nat → Int32) : Prop := (RC m 1 (m 138) ∧ WZ (m 138)) ∧ (m 137 4 = 0 ∨ (RC m 85 (m 139) ∧ WZ (m 139))) ∧ m 0 3 = m 137 4 ∧ m 0 5 = m 137 7 ∧ (∀ k, k < mv m 137 7 → m 127 k = m 141 k) ∧ m 0 6 = m 137 11 ∧ TX (m 138) ∧ (m 137 4 = 0 ∨ TX (m 139))
section ZLR
variable {m m1 m' : Nat → Nat → Int32} {W' : Nat → Int32}
theorem LR.of (h : LR m) (e : ∀ i l, (1 ≤ i ∧ i < 43) ∨ (85 ≤ i ∧ i < 128) ∨ (i = 0 ∧ (l = 3 ∨ l = 5 ∨ l = 6)) ∨ (i = 137 ∧ (l = 4 ∨ l = 7 ∨ l = 11)) ∨ i = 138 ∨ i = 139 ∨ i = 141 → m' i l = m i l) : LR m' := by
  have r : ∀ i, i = 138 ∨ i = 139 ∨ i = 141 → m' i = m i := fun i hi => funext (fun l => e i l (by omega))
  obtain ⟨⟨a1, a2⟩, a3, a4, a5, a6, a7, a8, a9⟩ := h
  refine ⟨?_, ?_, ?_, ?_, ?_, ?_, ?_, ?_⟩
  · rw [r 138 (by omega)]
    exact ⟨a1.far (fun i l h1 h2 => e i l (by omega)), a2⟩
  · rw [r 139 (by omega), e 137 4 (by omega)]
    rcases a3 with a3 | ⟨a3, b3⟩
    · exact Or.inl a3
    · exact Or.inr ⟨a3.far (fun i l h1 h2 => e i l (by omega)), b3⟩
  · rw [e 0 3 (by omega), e 137 4 (by omega)]; exact a4
  · rw [e 0 5 (by omega), e 137 7 (by omega)]; exact a5
  · unfold mv at a6 ⊢
    rw [e 137 7 (by omega), r 141 (by omega)]
    exact fun k hk => (e 127 k (by omega)).trans (a6 k hk)
  · rw [e 0 6 (by omega), e 137 11 (by omega)]; exact a7
  · rw [r 138 (by omega)]; exact a8
  · rw [r 139 (by omega), e 137 4 (by omega)]; exact a9
/-- a new world on both sides; nothing else that matters -/
theorem LR.new (h : LR m) (f : ∀ i l, (85 ≤ i ∧ i < 128) ∨ (i = 0 ∧ (l = 3 ∨ l = 5 ∨ l = 6)) ∨ 137 ≤ i → m1 i l = m i l) (g : MR m1 m') (r : RC m1 1 W') (w : WZ W') (x : TX W') : LR (zrow m' 138 W') := by
  have s : zrow m' 138 W' 138 = W' := if_pos rfl
  have e : ∀ i, i ≠ 137 → i ≠ 138 → i ≠ 140 → zrow m' 138 W' i = m1 i := fun i h1 h2 h3 => (if_neg h2).trans (g.1 i h1 h3)
  have k : ∀ l, l ≠ 0 → l ≠ 5 → zrow m' 138 W' 137 l = m1 137 l := fun l h1 h2 => (congrFun (if_neg (by decide)) l).trans (g.2 l h1 h2)
  obtain ⟨-, a3, a4, a5, a6, a7, -, a9⟩ := h
  refine ⟨?_, ?_, ?_, ?_, ?_, ?_, ?_, ?_⟩
  · rw [s]
    exact ⟨r.far (fun i l h1 h2 => congrFun (e i (by omega) (by omega) (by omega)) l), w⟩
  · rw [e 139 (by omega) (by omega) (by omega), k 4 (by omega) (by omega), f 137 4 (by omega), show m1 139 = m 139 from funext (fun l => f 139 l (by omega))]
    rcases a3 with a3 | ⟨a3, b3⟩
    · exact Or.inl a3
    · exact Or.inr ⟨a3.far (fun i l h1 h2 => (congrFun (e i (by omega) (by omega) (by omega)) l).trans (f i l (by omega))), b3⟩
  · rw [e 0 (by omega) (by omega) (by omega), k 4 (by omega) (by omega), f 0 3 (by omega), f 137 4 (by omega)]; exact a4
  · rw [e 0 (by omega) (by omega) (by omega), k 7 (by omega) (by omega), f 0 5 (by omega), f 137 7 (by omega)]; exact a5
  · unfold mv at a6 ⊢
    rw [k 7 (by omega) (by omega), f 137 7 (by omega), e 141 (by omega) (by omega) (by omega), e 127 (by omega) (by omega) (by omega)]
    intro j hj
    rw [f 127 j (by omega), f 141 j (by omega)]
    exact a6 j hj
  · rw [e 0 (by omega) (by omega) (by omega), k 11 (by omega) (by omega), f 0 6 (by omega), f 137 11 (by omega)]; exact a7
  · rw [s]; exact x
  · rw [e 139 (by omega) (by omega) (by omega), k 4 (by omega) (by omega), f 137 4 (by omega), show m1 139 = m 139 from funext (fun l => f 139 l (by omega))]
    exact a9
/-- a call of the reference that changes no world -/
theorem LR.ask (h : LR m) (g : MR m m') : LR (zrow m' 138 (m 138)) := h.new (fun _ _ _ => rfl) g h.1.1 h.1.2 h.2.2.2.2.2.2.1
theorem LR.n (h : LR m) : (m 1 5).toInt = (nv (m 138) 9 : Int) := by
  have e : m 1 5 = m 138 9 := h.1.1.globR (k := 9) (o := 0) (s := 5) (by omega) (by omega) rfl
  have h4 := h.1.2.W.N4
  rw [e, h.1.2.W.N, zoN (by omega)]
theorem noT (h : LR m) (M : Nat → Nat → Int32) (t : Int32) : q_noThread M (m 138) t = (bif sOK m t then (Int32.ofNat 0, zm2 M 137 0 (Int32.ofNat 0)) else (Int32.ofNat 1, zm2 (zm2 M 137 0 (Int32.ofNat 0)) 137 0 (Int32.ofNat 1))) := by
  have h4 := h.1.2.W.N4
  have q9 : q_threads (m 138) = Int32.ofNat (nv (m 138) 9) := h.1.2.W.N
  have e : (Int32.ofNat (nv (m 138) 9) - Int32.ofNat 1).toInt + 1 = (nv (m 138) 9 : Int) := by
    rw [Int32.toInt_sub, zoN (by omega), zoN (by omega), Int.bmod_eq_of_le (by omega) (by omega)]
    omega
  unfold q_noThread
  rw [q9, in_rg, e, sOK_rg, h.n, zoN (by omega)]
  rfl
theorem sOK_n (h : LR m) {t : Int32} (hs : sOK m t = true) : t = Int32.ofNat t.toNatClampNeg ∧ t.toNatClampNeg < nv (m 138) 9 ∧ t.toNatClampNeg < 4 := by
  have h4 := h.1.2.W.N4
  rw [sOK_rg, h.n] at hs
  obtain ⟨a, b⟩ := rg_n hs
  exact ⟨a, by omega, by omega⟩
theorem noW (M : Nat → Nat → Int32) (w : Int32) : q_noWord M w = (bif wOK w then (Int32.ofNat 0, M) else (Int32.ofNat 1, zm2 M 137 0 (Int32.ofNat 1))) := by
  unfold q_noWord
  rw [in_rg, wOK_rg, zoN (by omega), zoN (by omega)]
  rfl
theorem in01 (x : Int32) : zc1 .ne (q_in x (Int32.ofNat 0) (Int32.ofNat 1)) = tOK x := by
  rw [in_rg, tOK_rg, zoN (by omega), zoN (by omega)]
  rfl
theorem t01 {x : Int32} (h : tOK x = true) : x = Int32.ofNat 0 ∨ x = Int32.ofNat 1 := by
  rw [tOK_rg] at h
  obtain ⟨a, b⟩ := rg_n h
  have c : x.toNatClampNeg = 0 ∨ x.toNatClampNeg = 1 := by omega
  rcases c with c | c
  · rw [c] at a; exact Or.inl a
  · rw [c] at a; exact Or.inr a
theorem z_0 (M : Nat → Nat → Int32) (x : Int32) : zm2 M 137 0 x 137 0 = x := zx_at _ _ _ _
end ZLR
end
section
/-! what is asked, alike: one cell or a sum of them -/
theorem rg_f {v : Int32} {n k : Nat} (h : rg v 0 (n : Int) = false) (hk : k < n) (hn : n < 100000) : decide (v = Int32.ofNat k) = false := by
  refine decide_eq_false (fun e => ?_)
  have a := of_decide_eq_false h
  rw [e, zoN (by omega)] at a
  omega
theorem dkn {n k : Nat} (hn : n < 100000) (hk : k < 100000) : decide (Int32.ofNat n = Int32.ofNat k) = Nat.beq n k := by
  have e := zceq_n (a := n) (b := k) (by omega) (by omega)
  have e2 : zc2 .eq (Int32.ofNat n) (Int32.ofNat k) = decide (Int32.ofNat n = Int32.ofNat k) := rfl
  rw [← e2, e]
  by_cases q : n = k
  · rw [decide_eq_true q]; exact (Nat.beq_eq ▸ q : Nat.beq n k = true).symm
  · rw [decide_eq_false q]
    cases hb : Nat.beq n k with
    | false => rfl
    | true => exact absurd (Nat.eq_of_beq_eq_true hb) q
theorem rg_T {v x : Int32} (h : rg v 0 x.toInt = true) : zc1 .lt v = false ∧ zc2 .lt v x = true ∧ zc2 .ge v x = false := by
  rw [← lt_rg, Bool.and_eq_true, Bool.not_eq_true'] at h
  refine ⟨h.1, h.2, ?_⟩
  rw [zge_n, h.2]
  rfl
theorem rg_F {v x : Int32} (h : rg v 0 x.toInt = false) : zc1 .lt v = true ∨ (zc1 .lt v = false ∧ zc2 .lt v x = false ∧ zc2 .ge v x = true) := by
  rw [← lt_rg] at h
  cases h1 : zc1 .lt v with
  | true => exact Or.inl rfl
  | false =>
    rw [h1] at h
    have h2 : zc2 .lt v x = false := by simpa using h
    refine Or.inr ⟨rfl, h2, ?_⟩
    rw [zge_n, h2]
    rfl
section ZAK
variable {m : Nat → Nat → Int32} {t x k l w : Int32}
theorem LR.c (h : LR m) {T c o s : Nat} (ht : T < nv (m 138) 9) (ht4 : T < 4) (hc : c < 11 ∨ (15 ≤ c ∧ c ≤ 17) ∨ c = 21 ∨ c = 22) (hm : cmT T c = (o + 7 * T, s)) : m (1 + o + 7 * T) s = m 138 (376 + 103 * T + c) := h.1.1.cellS ht4 (by omega) (cnd0 ht hc) hm
theorem fells_eq (h : LR m) {T : Nat} (ht : T < nv (m 138) 9) (ht4 : T < 4) : ∀ (n : Nat) (s : Int32) (k : Nat), k + n = 5 → xl_allFalls m 1 T n s k = l_fellOf (m 138) T n s k := by
  intro n
  induction n with
  | zero => intro s k _; rfl
  | succ n ih =>
    intro s k hk
    have e : m (1 + 13 + 7 * T) k = q_of (m 138) T (5 + k) := h.c ht ht4 (by omega) (cmT_5 (by omega))
    rw [xl_allFalls, l_fellOf, e, ih _ _ (by omega)]
theorem an_thread (h : LR m) (M : Nat → Nat → Int32) : AN [0, 1] (e_thread m t x) ((q_thread M (m 138) t x).2 137 0) (q_thread M (m 138) t x).1 := by
  unfold e_thread q_thread
  rw [noT h M t]
  cases hs : sOK m t with
  | false =>
    simp only [cnF, zn1, cnT]
    exact AN.x 0 rfl rfl
  | true =>
    obtain ⟨-, ht, ht4⟩ := sOK_n h hs
    simp only [cnT, zne0, cnF]
    rw [in_rg, zoN (by omega), zoN (by omega)]
    revert ht ht4
    generalize t.toNatClampNeg = T
    intro ht ht4
    cases hx : rg x ((0 : Nat) : Int) (((9 : Nat) : Int) + 1) with
    | false =>
      have z : ∀ k, k < 10 → decide (x = Int32.ofNat k) = false := fun k hk => rg_f (n := 10) hx hk (by omega)
      simp only [z 0 (by omega), z 1 (by omega), z 2 (by omega), z 3 (by omega), z 4 (by omega), z 5 (by omega), z 6 (by omega), z 7 (by omega), z 8 (by omega), z 9 (by omega), cnF]
      exact AN.x 1 rfl rfl
    | true =>
      obtain ⟨ex, hn⟩ := rg_n (n := 10) hx
      revert ex hn
      generalize x.toNatClampNeg = n
      intro ex hn
      subst ex
      have hn10 : n < 10 := by omega
      rw [cnT]
      simp only [dkn (show n < 100000 by omega) (show 0 < 100000 by omega), dkn (show n < 100000 by omega) (show 1 < 100000 by omega), dkn (show n < 100000 by omega) (show 2 < 100000 by omega), dkn (show n < 100000 by omega) (show 3 < 100000 by omega), dkn (show n < 100000 by omega) (show 4 < 100000 by omega), dkn (show n < 100000 by omega) (show 5 < 100000 by omega), dkn (show n < 100000 by omega) (show 6 < 100000 by omega), dkn (show n < 100000 by omega) (show 7 < 100000 by omega), dkn (show n < 100000 by omega) (show 8 < 100000 by omega), dkn (show n < 100000 by omega) (show 9 < 100000 by omega)]
      clear hx hn
      match n, hn10 with
      | 0, _ => exact AN.v rfl (h.c ht ht4 (by omega) rfl)
      | 1, _ => exact AN.v rfl (h.c ht ht4 (by omega) rfl)
      | 2, _ =>
        have e : m (1 + 14 + 7 * T) 0 = m 138 (376 + 103 * T + 2) := h.c ht ht4 (by omega) rfl
        show AN [0, 1] (bif zc1 .eq (m (1 + 14 + 7 * T) 0) then .inl (Int32.ofNat 0) else .inl (Int32.ofNat 1)) _ (m 138 (376 + 103 * T + 2))
        rw [e]
        rcases h.1.2.W.g01 ht4 with q | q
        · rw [q, zeq0, cnT]; exact AN.v rfl rfl
        · rw [q, zeq1', cnF]; exact AN.v rfl rfl
      | 3, _ =>
        show AN [0, 1] (bif zc1 .eq (x_sDone m 1 T) then .inl (Int32.ofNat 0) else .inl (Int32.ofNat 1)) ((bif zc1 .eq (q_isDone (m 138) T) then (Int32.ofNat 0, zm2 M 137 0 (Int32.ofNat 0)) else (Int32.ofNat 1, zm2 M 137 0 (Int32.ofNat 0))).2 137 0) (bif zc1 .eq (q_isDone (m 138) T) then (Int32.ofNat 0, zm2 M 137 0 (Int32.ofNat 0)) else (Int32.ofNat 1, zm2 M 137 0 (Int32.ofNat 0))).1
        rw [sdone_eq h.1.1 h.1.2.W ht]
        cases zc1 .eq (q_isDone (m 138) T) with
        | true => exact AN.v rfl rfl
        | false => exact AN.v rfl rfl
      | 4, _ => exact AN.v rfl (h.c ht ht4 (by omega) rfl)
      | 5, _ => exact AN.v rfl (h.c ht ht4 (by omega) rfl)
      | 6, _ => exact AN.v rfl (fells_eq h ht ht4 5 (Int32.ofNat 0) 0 rfl)
      | 7, _ => exact AN.v rfl (h.c ht ht4 (by omega) rfl)
      | 8, _ => exact AN.v rfl (h.c ht ht4 (by omega) rfl)
      | 9, _ => exact AN.v rfl (h.c ht ht4 (by omega) rfl)
theorem sub1 {n : Nat} (hn : n ≤ 1000) : (Int32.ofNat n - Int32.ofNat 1).toInt + 1 = (n : Int) := by
  rw [Int32.toInt_sub, zoN (by omega), zoN (by omega), Int.bmod_eq_of_le (by omega) (by omega)]
  omega
theorem an_leftOut (h : LR m) (M : Nat → Nat → Int32) : AN [0] (e_leftOut m t k) ((q_leftOut M (m 138) t k).2 137 0) (q_leftOut M (m 138) t k).1 := by
  unfold e_leftOut q_leftOut
  rw [noT h M t]
  cases hs : sOK m t with
  | false =>
    simp only [cnF, zeq1', cnT]
    exact AN.x 0 rfl rfl
  | true =>
    obtain ⟨-, ht, ht4⟩ := sOK_n h hs
    simp only [cnT, zeq0, cnF]
    revert ht ht4
    generalize t.toNatClampNeg = T
    intro ht ht4
    have hq := (h.1.2.W.2 T ht4).2.1
    have el : m (1 + 14 + 7 * T) 5 = Int32.ofNat (nv (m 138) (376 + 103 * T + 10)) := (h.1.1.left ht4 ht).trans hq.1
    have h4 := hq.2.2
    rw [zeq_n, in_rg, zoN (by omega), sub1 (by omega), el]
    have ez : (Int32.ofNat (nv (m 138) (376 + 103 * T + 10))).toInt = (nv (m 138) (376 + 103 * T + 10) : Int) := zoN (by omega)
    cases hr : rg k ((0 : Nat) : Int) (nv (m 138) (376 + 103 * T + 10) : Int) with
    | true =>
      obtain ⟨ek, hn⟩ := rg_n (n := (nv (m 138) (376 + 103 * T + 10) : Int)) hr
      obtain ⟨r1, r2, r3⟩ := rg_T (x := Int32.ofNat (nv (m 138) (376 + 103 * T + 10))) (by rw [ez]; exact hr)
      have r4 : zc2 .ge k (Int32.ofNat 4) = false := by
        rw [ek]
        exact zcge_f (by omega) (by omega) (by omega)
      rw [r1, cnF, r3, cnF, r4, cnF, Bool.not_true, cnF]
      exact AN.v rfl (h.1.1.lo ht4 ht (by omega) (by omega))
    | false =>
      rw [Bool.not_false, cnT]
      rcases rg_F (x := Int32.ofNat (nv (m 138) (376 + 103 * T + 10))) (by rw [ez]; exact hr) with r | ⟨r1, r2, r3⟩
      · rw [r, cnT]; exact AN.v rfl rfl
      · rw [r1, cnF, r3, cnT]; exact AN.v rfl rfl
theorem an_blocks (h : LR m) (M : Nat → Nat → Int32) : AN [0, 1] (e_blocks m t x) ((q_blocks M (m 138) t x).2 137 0) (q_blocks M (m 138) t x).1 := by
  unfold e_blocks q_blocks
  rw [noT h M t, in01]
  cases hs : sOK m t with
  | false =>
    simp only [cnF, zn1, cnT]
    exact AN.x 0 rfl rfl
  | true =>
    obtain ⟨-, ht, ht4⟩ := sOK_n h hs
    simp only [cnT, zne0, cnF]
    cases hx : tOK x with
    | false => simp only [cnF]; exact AN.x 1 rfl rfl
    | true =>
      rcases t01 hx with e | e
      · subst e
        simp only [cnT]
        rw [show zc1 .ne (Int32.ofNat (Int32.ofNat 0).toNatClampNeg) = false from by decide, zne0, cnF, cnF]
        exact AN.v rfl (h.c ht ht4 (by omega) rfl)
      · subst e
        simp only [cnT]
        rw [show zc1 .ne (Int32.ofNat (Int32.ofNat 1).toNatClampNeg) = true from by decide, zn1, cnT, cnT]
        exact AN.v rfl (h.c ht ht4 (by omega) rfl)
theorem fell_eq (h : LR m) {X : Nat} (hX : X < 5) : ∀ (n : Nat) (a : Int32) (k : Nat), k + n = nv (m 138) 9 → xl_fellL m t X n a k = l_fell (m 138) t X n a k := by
  have h4 := h.1.2.W.N4
  intro n
  induction n with
  | zero => intro a k _; rfl
  | succ n ih =>
    intro a k hk
    have e : m (1 + 13 + 7 * k) X = q_of (m 138) k (5 + X) := h.c (by omega) (by omega) (by omega) (cmT_5 hX)
    rw [xl_fellL, l_fell, e, ih _ _ (by omega), ih _ _ (by omega), show a + Int32.ofNat 0 = a from Int32.add_zero a]
theorem an_fell (h : LR m) (M : Nat → Nat → Int32) : AN [0, 1] (e_fell m t x) ((q_fell M (m 138) t x).2 137 0) (q_fell M (m 138) t x).1 := by
  have h4 := h.1.2.W.N4
  have e9 : mv m 1 5 = nv (m 138) 9 := h.1.1.n9
  have q9 : q_threads (m 138) = Int32.ofNat (nv (m 138) 9) := h.1.2.W.N
  have T : zc1 .ne (q_in t (Int32.ofNat 0) (q_threads (m 138) - Int32.ofNat 1)) = sOK m t := by
    rw [q9, in_rg, zoN (by omega), sub1 (by omega), sOK_rg, h.n]
    rfl
  have X : zc1 .ne (q_in x (Int32.ofNat 0) (Int32.ofNat 4)) = rg x 0 5 := by
    rw [in_rg, zoN (by omega), zoN (by omega)]
    rfl
  have key : AN [0, 1] (bif zc1 .lt x then .inr 1 else (bif zc2 .lt x (Int32.ofNat 5) then .inl (xl_fellL m t x.toNatClampNeg (mv m 1 5) (Int32.ofNat 0) 0) else .inr 1)) ((bif rg x 0 5 then (l_fell (m 138) t x.toNatClampNeg (nv (m 138) 9) (Int32.ofNat 0) 0, zm2 M 137 0 (Int32.ofNat 0)) else (Int32.ofNat 0, (q_thr1 (zm2 M 137 0 (Int32.ofNat 0)) 2).2)).2 137 0) (bif rg x 0 5 then (l_fell (m 138) t x.toNatClampNeg (nv (m 138) 9) (Int32.ofNat 0) 0, zm2 M 137 0 (Int32.ofNat 0)) else (Int32.ofNat 0, (q_thr1 (zm2 M 137 0 (Int32.ofNat 0)) 2).2)).1 := by
    cases hx : rg x 0 5 with
    | true =>
      obtain ⟨-, hn⟩ := rg_n hx
      obtain ⟨r1, r2, -⟩ := rg_T (x := Int32.ofNat 5) (by rw [zoN (by omega)]; exact hx)
      rw [r1, cnF, r2, cnT, cnT, e9, fell_eq h (by omega) _ _ _ (by omega)]
      exact AN.v rfl rfl
    | false =>
      rw [cnF]
      rcases rg_F (x := Int32.ofNat 5) (by rw [zoN (by omega)]; exact hx) with r | ⟨r1, r2, -⟩
      · rw [r, cnT]; exact AN.x 1 rfl rfl
      · rw [r1, cnF, r2, cnF]; exact AN.x 1 rfl rfl
  unfold e_fell q_fell
  rw [T, X]
  cases zc2 .eq t (-1) with
  | true => simp only [cnT]; exact key
  | false =>
    cases sOK m t with
    | true => simp only [cnT, cnF]; exact key
    | false => simp only [cnF]; exact AN.x 0 rfl rfl
theorem an_word (h : LR m) (M : Nat → Nat → Int32) : AN [0] (e_word m w) ((q_word M (m 138) w).2 137 0) (q_word M (m 138) w).1 := by
  unfold e_word q_word
  rw [noW]
  cases hw : wOK w with
  | false => simp only [cnF, zeq1']; exact AN.x 0 rfl rfl
  | true =>
    rw [wOK_rg] at hw
    obtain ⟨-, hn⟩ := rg_n hw
    simp only [cnT, zeq0]
    exact AN.v rfl (h.1.1.globR (by omega) (by omega) (cm_w (by omega)))
theorem an_sees (h : LR m) (M : Nat → Nat → Int32) : AN [0] (e_sees m t w) ((q_sees M (m 138) t w).2 137 0) (q_sees M (m 138) t w).1 := by
  unfold e_sees q_sees
  rw [noT h M t, noW]
  cases hs : sOK m t with
  | false => simp only [cnF, zn1, cnT]; exact AN.x 0 rfl rfl
  | true =>
    obtain ⟨-, ht, ht4⟩ := sOK_n h hs
    simp only [cnT, zne0, cnF]
    cases hw : wOK w with
    | false => simp only [cnF, zeq1']; exact AN.x 0 rfl rfl
    | true =>
      rw [wOK_rg] at hw
      obtain ⟨-, hn⟩ := rg_n hw
      simp only [cnT, zeq0]
      exact AN.v rfl (seen_eq h.1.1 h.1.2.1.1 ht (by omega))
theorem leave_eq (h : LR m) : ∀ (n c k : Nat), k + n = nv (m 138) 9 → xl_leavingOut m 1 l n c k = l_leavers (m 138) l n (Int32.ofNat c) k := by
  intro n
  induction n with
  | zero => intro c k _; rfl
  | succ n ih =>
    intro c k hk
    have p := (place_rx (l := l) h.1.1 h.1.2.1.1 (t := k) (by omega)).1
    rw [xl_leavingOut, l_leavers, zne2_n, p, ih _ _ (by omega), ih _ _ (by omega), i_add, show Int32.ofNat c + Int32.ofNat 0 = Int32.ofNat c from Int32.add_zero _]
    cases zc2 .eq (q_placeLeft (m 138) k l) (-1) <;> rfl
theorem an_lock (h : LR m) (M : Nat → Nat → Int32) : AN [0, 1] (e_lock m l x) ((q_lock M (m 138) l x).2 137 0) (q_lock M (m 138) l x).1 := by
  have e9 : mv m 1 5 = nv (m 138) 9 := h.1.1.n9
  unfold e_lock q_lock
  rw [in_rg, in_rg, zoN (by omega), zoN (by omega), zoN (by omega)]
  cases hl : rg l ((0 : Nat) : Int) (((3 : Nat) : Int) + 1) with
  | false =>
    rw [cnF]
    rcases rg_F (x := Int32.ofNat 4) (by rw [zoN (by omega)]; exact hl) with r | ⟨r1, r2, -⟩
    · rw [r, cnT]; exact AN.x 0 rfl rfl
    · rw [r1, cnF, r2, cnF]; exact AN.x 0 rfl rfl
  | true =>
    obtain ⟨-, hn⟩ := rg_n (n := 4) hl
    obtain ⟨r1, r2, -⟩ := rg_T (x := Int32.ofNat 4) (by rw [zoN (by omega)]; exact hl)
    rw [r1, cnF, r2, cnT, cnT]
    have hL : l.toNatClampNeg < 4 := by omega
    clear hl hn r1 r2
    revert hL
    generalize l.toNatClampNeg = L
    intro hL
    cases hx : rg x ((0 : Nat) : Int) (((5 : Nat) : Int) + 1) with
    | false =>
      have z : ∀ k, k < 6 → decide (x = Int32.ofNat k) = false := fun k hk => rg_f (n := 6) hx hk (by omega)
      simp only [z 0 (by omega), z 1 (by omega), z 2 (by omega), z 3 (by omega), z 4 (by omega), z 5 (by omega), cnF]
      exact AN.x 1 rfl rfl
    | true =>
      obtain ⟨ex, hn⟩ := rg_n (n := 6) hx
      revert ex hn
      generalize x.toNatClampNeg = n
      intro ex hn
      subst ex
      have hn6 : n < 6 := by omega
      rw [cnT]
      simp only [dkn (show n < 100000 by omega) (show 0 < 100000 by omega), dkn (show n < 100000 by omega) (show 1 < 100000 by omega), dkn (show n < 100000 by omega) (show 2 < 100000 by omega), dkn (show n < 100000 by omega) (show 3 < 100000 by omega), dkn (show n < 100000 by omega) (show 4 < 100000 by omega), dkn (show n < 100000 by omega) (show 5 < 100000 by omega)]
      clear hx hn
      match n, hn6 with
      | 0, _ => exact AN.v rfl (h.1.1.lkR (by omega) (by omega) (lt4 (P := fun l => cm (16 + l) = (5 + l, 0)) rfl rfl rfl rfl hL))
      | 1, _ =>
        refine AN.v rfl ?_
        show m (1 + 1) (mv m (1 + 5 + L) 0) = m 138 (32 + nv (m 138) (16 + L))
        rw [h.1.1.lw hL]
        exact h.1.1.globR (by have := h.1.2.W.lk32 hL; omega) (by omega) (cm_w (h.1.2.W.lk32 hL))
      | 2, _ => exact AN.v rfl (h.1.1.lkR (by omega) (by omega) (lt4 (P := fun l => cm (20 + l) = (5 + l, 1)) rfl rfl rfl rfl hL))
      | 3, _ => exact AN.v rfl (h.1.1.lkR (by omega) (by omega) (lt4 (P := fun l => cm (24 + l) = (5 + l, 2)) rfl rfl rfl rfl hL))
      | 4, _ =>
        refine AN.v rfl ?_
        show x_leavingOut m 1 (Int32.ofNat L) = q_leavers (m 138) (Int32.ofNat L)
        unfold x_leavingOut q_leavers
        rw [e9]
        exact leave_eq h _ 0 0 (by omega)
      | 5, _ => exact AN.v rfl (h.1.1.lkR (by omega) (by omega) (lt4 (P := fun l => cm (28 + l) = (5 + l, 3)) rfl rfl rfl rfl hL))
theorem le_rg {v x : Int32} : (!zc1 .lt v && zc2 .le v x) = rg v 0 (x.toInt + 1) := by
  have e1 : zc1 .lt v = decide (v < 0) := rfl
  have e2 : zc2 .le v x = decide (v ≤ x) := rfl
  unfold rg
  rw [e1, e2, Bool.decide_and]
  congr 1
  · rw [← decide_not]
    refine decide_eq_decide.mpr ?_
    rw [Int32.lt_iff_toInt_lt, Int32.toInt_zero]
    omega
  · refine decide_eq_decide.mpr ?_
    rw [Int32.le_iff_toInt_le]
    omega
theorem an_term (h : LR m) (M : Nat → Nat → Int32) : AN [1] (e_term m x) ((q_term M (m 138) x).2 137 0) (q_term M (m 138) x).1 := by
  unfold e_term q_term
  rw [in_rg, zoN (by omega)]
  have q : (!zc1 .lt x && zc2 .le x (Int32.ofNat 8)) = rg x ((0 : Nat) : Int) ((Int32.ofNat 8).toInt + 1) := le_rg
  rw [← q]
  cases h1 : zc1 .lt x with
  | true => simp only [cnT, Bool.not_true, Bool.false_and, cnF]; exact AN.x 0 rfl rfl
  | false =>
    cases h2 : zc2 .le x (Int32.ofNat 8) with
    | false => simp only [cnF, Bool.not_false, Bool.true_and]; exact AN.x 0 rfl rfl
    | true =>
      have hn := (i7_of (by omega) h1 h2).2
      simp only [cnF, cnT, Bool.not_false, Bool.true_and]
      exact AN.v rfl (h.1.1.globR (by omega) (by omega) (cm_3 (by omega)))
theorem an_deed (h : LR m) (M : Nat → Nat → Int32) : AN [0, 1] (e_deed m t k x) ((q_deed M (m 138) t k x).2 137 0) (q_deed M (m 138) t k x).1 := by
  unfold e_deed q_deed
  rw [noT h M t, in01]
  cases hs : sOK m t with
  | false => simp only [cnF, zn1, cnT]; exact AN.x 0 rfl rfl
  | true =>
    obtain ⟨-, ht, ht4⟩ := sOK_n h hs
    simp only [cnT, zne0, cnF]
    revert ht ht4
    generalize t.toNatClampNeg = T
    intro ht ht4
    have e22 : m (1 + 10 + 7 * T) 2 = m 138 (376 + 103 * T + 22) := h.c ht ht4 (by omega) rfl
    have n22 : mv m (1 + 10 + 7 * T) 2 = nv (m 138) (376 + 103 * T + 22) := by unfold mv nv; rw [e22]
    have h24 := (h.1.2.W.2 T ht4).2.2.2.1.2.2
    rw [n22, zeq_n, in_rg, zoN (by omega), sub1 (by omega)]
    have ez : (Int32.ofNat (nv (m 138) (376 + 103 * T + 22))).toInt = (nv (m 138) (376 + 103 * T + 22) : Int) := zoN (by omega)
    cases hx : tOK x with
    | false => simp only [cnF]; exact AN.x 1 rfl rfl
    | true =>
      cases hr : rg k ((0 : Nat) : Int) (nv (m 138) (376 + 103 * T + 22) : Int) with
      | true =>
        obtain ⟨ek, hn⟩ := rg_n (n := (nv (m 138) (376 + 103 * T + 22) : Int)) hr
        obtain ⟨r1, r2, r3⟩ := rg_T (x := Int32.ofNat (nv (m 138) (376 + 103 * T + 22))) (by rw [ez]; exact hr)
        obtain ⟨d1, d2⟩ := h.1.1.deed ht4 ht (p := k.toNatClampNeg) (by omega) (by omega)
        rw [r1, r2]
        simp only [cnT, cnF, Bool.not_true]
        rcases t01 hx with e | e
        · subst e
          rw [show zc1 .ne (Int32.ofNat (Int32.ofNat 0).toNatClampNeg) = false from by decide, cnF]
          exact AN.v rfl d1
        · subst e
          rw [show zc1 .ne (Int32.ofNat (Int32.ofNat 1).toNatClampNeg) = true from by decide, cnT]
          exact AN.v rfl d2
      | false =>
        simp only [cnT, Bool.not_false]
        rcases rg_F (x := Int32.ofNat (nv (m 138) (376 + 103 * T + 22))) (by rw [ez]; exact hr) with r | ⟨r1, r2, r3⟩
        · rw [r]
          simp only [cnT]
          exact cndi (fun q => AN [0, 1] q _ _) (AN.v rfl rfl) (AN.v rfl rfl)
        · rw [r1, r2]
          simp only [cnF]
          exact cndi (fun q => AN [0, 1] q _ _) (AN.v rfl rfl) (AN.v rfl rfl)
theorem cm_out {j : Nat} (hj : j < 20) : cm (96 + 2 * j) = (38, j) ∧ cm (96 + 2 * j + 1) = (39, j) := by
  have a : ∀ j, j < 20 → cm (96 + 2 * j) = (38, j) ∧ cm (96 + 2 * j + 1) = (39, j) := by decide +kernel
  exact a j hj
theorem an_output (h : LR m) (M : Nat → Nat → Int32) : AN [1] (e_output m k x) ((q_output M (m 138) k x).2 137 0) (q_output M (m 138) k x).1 := by
  have e14 : m 1 12 = m 138 14 := h.1.1.globR (k := 14) (o := 0) (s := 12) (by omega) (by omega) rfl
  have o14 := h.1.2.W.1.2.2.2.2.1
  have h20 := o14.2.2
  unfold e_output q_output
  rw [in01, zeq_n, in_rg, zoN (by omega), sub1 (by omega), e14, o14.1]
  have ez : (Int32.ofNat (nv (m 138) 14)).toInt = (nv (m 138) 14 : Int) := zoN (by omega)
  cases hx : tOK x with
  | false => simp only [cnF]; exact AN.x 0 rfl rfl
  | true =>
    cases hr : rg k ((0 : Nat) : Int) (nv (m 138) 14 : Int) with
    | true =>
      obtain ⟨ek, hn⟩ := rg_n (n := (nv (m 138) 14 : Int)) hr
      obtain ⟨r1, r2, r3⟩ := rg_T (x := Int32.ofNat (nv (m 138) 14)) (by rw [ez]; exact hr)
      have r4 : zc2 .lt k (Int32.ofNat 20) = true := by
        rw [ek]
        exact zclt (by omega) (by omega) (by omega)
      obtain ⟨c1, c2⟩ := cm_out (j := k.toNatClampNeg) (by omega)
      rw [r1, r3, r4]
      simp only [cnT, cnF, Bool.not_true]
      rcases t01 hx with e | e
      · subst e
        rw [show zc1 .ne (Int32.ofNat (Int32.ofNat 0).toNatClampNeg) = false from by decide, cnF]
        exact AN.v rfl (h.1.1.globR (k := 96 + 2 * k.toNatClampNeg) (by omega) (by omega) c1)
      · subst e
        rw [show zc1 .ne (Int32.ofNat (Int32.ofNat 1).toNatClampNeg) = true from by decide, cnT]
        exact AN.v rfl (h.1.1.globR (k := 96 + 2 * k.toNatClampNeg + 1) (by omega) (by omega) c2)
    | false =>
      simp only [cnT, Bool.not_false]
      rcases rg_F (x := Int32.ofNat (nv (m 138) 14)) (by rw [ez]; exact hr) with r | ⟨r1, r2, r3⟩
      · rw [r]
        simp only [cnT]
        exact cndi (fun q => AN [1] q _ _) (AN.v rfl rfl) (AN.v rfl rfl)
      · rw [r1, r3]
        simp only [cnT, cnF]
        exact cndi (fun q => AN [1] q _ _) (AN.v rfl rfl) (AN.v rfl rfl)
theorem zfN_60 : ∀ n, n < 60 → ∀ a, a < 60 → zfN (Int32.ofNat n - Int32.ofNat 1 - Int32.ofNat a) = (n + 59 - a) % 60 := by decide +kernel
theorem an_log (h : LR m) (hc : CG m 1) (M : Nat → Nat → Int32) : AN [1] (e_log m k x) ((q_log M (m 138) k x).2 137 0) (q_log M (m 138) k x).1 := by
  have o15 := h.1.2.W.1.2.2.2.2.2.1
  have h60 := o15.2.2
  have e15 : m (1 + 40) 1 = Int32.ofNat (nv (m 138) 15) := h.1.1.1.1.trans o15.1
  unfold e_log q_log x_logCell
  rw [in_rg, zoN (by omega), zoN (by omega), zeq_n, in_rg, zoN (by omega), sub1 (by omega), e15]
  have ez : (Int32.ofNat (nv (m 138) 15)).toInt = (nv (m 138) 15 : Int) := zoN (by omega)
  cases hx : rg x ((0 : Nat) : Int) (((3 : Nat) : Int) + 1) with
  | false =>
    rw [cnF]
    rcases rg_F (x := Int32.ofNat 4) (by rw [zoN (by omega)]; exact hx) with r | ⟨r1, r2, -⟩
    · rw [r, cnT]; exact AN.x 0 rfl rfl
    · rw [r1, cnF, r2, cnF]; exact AN.x 0 rfl rfl
  | true =>
    obtain ⟨-, hX⟩ := rg_n (n := 4) hx
    obtain ⟨r1, r2, -⟩ := rg_T (x := Int32.ofNat 4) (by rw [zoN (by omega)]; exact hx)
    rw [r1, r2, cnF, cnT, cnT, cnF, cnT]
    cases hr : rg k ((0 : Nat) : Int) (nv (m 138) 15 : Int) with
    | true =>
      obtain ⟨ek, hn⟩ := rg_n (n := (nv (m 138) 15 : Int)) hr
      obtain ⟨s1, s2, s3⟩ := rg_T (x := Int32.ofNat (nv (m 138) 15)) (by rw [ez]; exact hr)
      have o2 := hc.1
      rw [s1, s3, cnF, cnF, Bool.not_true, cnF]
      refine AN.v rfl ?_
      show m (1 + 41) (zfN (m (1 + 40) 2 - Int32.ofNat 1 - k) * 4 + x.toNatClampNeg) = m 138 (136 + 4 * (nv (m 138) 15 - 1 - k.toNatClampNeg) + x.toNatClampNeg)
      have q := h.1.1.1.2 k.toNatClampNeg x.toNatClampNeg (by omega) (by omega)
      have e1 : zfN (m (1 + 40) 2 - Int32.ofNat 1 - k) = (mv m (1 + 40) 2 + 59 - k.toNatClampNeg) % 60 := by
        rw [o2.1, ek, nv_on (by omega)]
        exact zfN_60 _ (by have := o2.2; omega) _ (by omega)
      rw [e1, Nat.mul_comm]
      exact q
    | false =>
      rw [Bool.not_false, cnT]
      rcases rg_F (x := Int32.ofNat (nv (m 138) 15)) (by rw [ez]; exact hr) with r | ⟨s1, s2, s3⟩
      · rw [r, cnT]; exact AN.v rfl rfl
      · rw [s1, s3, cnF, cnT]; exact AN.v rfl rfl
theorem an_fault (h : LR m) {M : Nat → Nat → Int32} (hM : M 137 11 = m 137 11) : e_fault m = (q_fault M).1 := by
  unfold e_fault q_fault
  rw [zx_nk _ _ (by decide), hM]
  exact h.2.2.2.2.2.1
theorem gbits_eq (h : LR m) : ∀ (n : Nat) (s : Int32) (k : Nat), k + n = nv (m 138) 9 → xl_guessingBits m 1 n s k = l_guessing (m 138) n s k := by
  have h4 := h.1.2.W.N4
  intro n
  induction n with
  | zero => intro s k _; rfl
  | succ n ih =>
    intro s k hk
    have e := h.1.1.gs (t := k) (by omega) (by omega)
    rw [xl_guessingBits, l_guessing]
    unfold x_isGuessing
    rw [e, ih _ _ (by omega), ih _ _ (by omega)]
    have q2 : q_of (m 138) k 2 = m 138 (376 + 103 * k + 2) := rfl
    rw [q2]
    rcases h.1.2.W.g01 (t := k) (by omega) with q | q
    · rw [q, zeq0, cnT, zeq0, cnT]
      have z : ∀ k, k < 4 → Int32.ofNat 0 <<< (Int32.ofNat k &&& 31) = Int32.ofNat 0 := by decide +kernel
      rw [z k (by omega)]
    · rw [q, zeq1', cnF, zeq1', cnF]
theorem kept_eq (h : LR m) : ∀ (n : Nat) (s : Int32) (k : Nat), k + n = nv (m 138) 9 → xl_allKept m 1 n s k = l_keptAll (m 138) n s k := by
  have h4 := h.1.2.W.N4
  intro n
  induction n with
  | zero => intro s k _; rfl
  | succ n ih =>
    intro s k hk
    have e : m (1 + 10 + 7 * k) 6 = q_of (m 138) k 4 := h.c (by omega) (by omega) (by omega) rfl
    rw [xl_allKept, l_keptAll, e, ih _ _ (by omega)]
theorem lbits_eq (h : LR m) : ∀ (n : Nat) (s : Int32) (k : Nat), k + n = 4 → xl_lockBits m 1 n s k = l_heldLocks (m 138) n s k := by
  intro n
  induction n with
  | zero => intro s k _; rfl
  | succ n ih =>
    intro s k hk
    have hk4 : k < 4 := by omega
    have hw := h.1.2.W.lk32 hk4
    have e : m (1 + 1) (mv m (1 + 5 + k) 0) = m 138 (32 + nv (m 138) (16 + k)) := by
      rw [h.1.1.lw hk4]
      exact h.1.1.globR (by omega) (by omega) (cm_w hw)
    rw [xl_lockBits, l_heldLocks, e, ih _ _ (by omega), ih _ _ (by omega), zne_n]
    cases zc1 .eq (m 138 (32 + nv (m 138) (16 + k))) <;> rfl
theorem an_count (h : LR m) (M : Nat → Nat → Int32) : e_count m x = (q_count M (m 138) x).1 := by
  have e9 : mv m 1 5 = nv (m 138) 9 := h.1.1.n9
  have g : ∀ k s, k < 136 → k ≠ 15 → cm k = (0, s) → m 1 s = m 138 k := fun k s h1 h2 h3 => h.1.1.globR h1 h2 h3
  have e3 : x_doneBits m 1 = q_doneOnes (m 138) := done_eq h.1.1 h.1.2.W
  have e4 : x_guessingBits m 1 = q_guessing (m 138) := by
    unfold x_guessingBits q_guessing
    rw [e9]
    exact gbits_eq h _ _ _ (by omega)
  have e5 : x_allKept m 1 = q_keptAll (m 138) := by
    unfold x_allKept q_keptAll
    rw [e9]
    exact kept_eq h _ _ _ (by omega)
  have e6 : x_lockBits m 1 = q_heldLocks (m 138) := lbits_eq h _ _ _ rfl
  have e8 : m (1 + 40) 1 = m 138 15 := h.1.1.1.1
  have eT : m 1 5 = q_threads (m 138) := g 9 5 (by omega) (by omega) rfl
  unfold e_count q_count
  rw [eT, g 10 6 (by omega) (by omega) rfl, g 11 7 (by omega) (by omega) rfl, e3, e4, e5, e6, g 14 12 (by omega) (by omega) rfl, e8, g 12 8 (by omega) (by omega) rfl]
  cases decide (x = Int32.ofNat 0) with
  | true => rfl
  | false =>
    cases decide (x = Int32.ofNat 1) with
    | true => rfl
    | false =>
      cases decide (x = Int32.ofNat 2) with
      | true => rfl
      | false =>
        cases decide (x = Int32.ofNat 3) with
        | true => rfl
        | false =>
          cases decide (x = Int32.ofNat 4) with
          | true => rfl
          | false =>
            cases decide (x = Int32.ofNat 5) with
            | true => rfl
            | false =>
              cases decide (x = Int32.ofNat 6) with
              | true => rfl
              | false =>
                cases decide (x = Int32.ofNat 7) with
                | true => rfl
                | false =>
                  cases decide (x = Int32.ofNat 8) with
                  | true => rfl
                  | false => cases decide (x = Int32.ofNat 9) <;> rfl
end ZAK
end
section
/-! what is asked of programs, alike -/
noncomputable def orL (g : Nat → Int32) : Nat → Int32 → Nat → Int32
  | 0, s, _ => s
  | n + 1, s, k => orL g n (s ||| g k) (k + 1)
theorem orz2 (s : Int32) : Int32.ofNat 0 ||| s = s := Int32.zero_or
theorem orL_s (g : Nat → Int32) : ∀ (n : Nat) (s : Int32) (k : Nat), orL g n s k = s ||| orL g n (Int32.ofNat 0) k := by
  intro n
  induction n with
  | zero => intro s k; exact (orz s).symm
  | succ n ih =>
    intro s k
    rw [orL, orL, ih (s ||| g k), ih (Int32.ofNat 0 ||| g k), orz2, Int32.or_assoc]
theorem orL_or (g f : Nat → Int32) : ∀ (n : Nat) (k : Nat), orL g n (Int32.ofNat 0) k ||| orL f n (Int32.ofNat 0) k = orL (fun j => g j ||| f j) n (Int32.ofNat 0) k := by
  intro n
  induction n with
  | zero => intro k; exact orz _
  | succ n ih =>
    intro k
    rw [orL, orL, orL, orz2, orz2, orz2, orL_s g n, orL_s f n, orL_s (fun j => g j ||| f j) n, ← ih (k + 1)]
    rw [Int32.or_assoc, Int32.or_assoc, ← Int32.or_assoc (orL g n (Int32.ofNat 0) (k + 1)), Int32.or_comm (orL g n (Int32.ofNat 0) (k + 1)) (f k), Int32.or_assoc]
theorem orL_e {g f : Nat → Int32} : ∀ (n : Nat) (s : Int32) (k : Nat), (∀ j, k ≤ j → j < k + n → g j = f j) → orL g n s k = orL f n s k := by
  intro n
  induction n with
  | zero => intro s k _; rfl
  | succ n ih =>
    intro s k h
    rw [orL, orL, h k (by omega) (by omega)]
    exact ih _ _ (fun j h1 h2 => h j (by omega) (by omega))
/-- the block of a deed, if it is of a kind -/
noncomputable def gK (W : Nat → Int32) (T J k : Nat) : Int32 := bif Nat.beq (nv W (376 + 103 * T + (55 + 2 * k))) J then q_blockOf W (Int32.ofNat (nv W (376 + 103 * T + (55 + 2 * k + 1)))) else Int32.ofNat 0
noncomputable def gL (W : Nat → Int32) (T J k : Nat) : Int32 := bif Nat.beq (nv W (376 + 103 * T + (55 + 2 * k))) J then q_blockOf W (W (16 + nv W (376 + 103 * T + (55 + 2 * k + 1)))) else Int32.ofNat 0
noncomputable def gR (W : Nat → Int32) (T : Nat) (a b c : Int32) (k : Nat) : Int32 := ((bif zc1 .ne b then gK W T 2 k else Int32.ofNat 0) ||| (bif zc1 .ne a then gK W T 3 k else Int32.ofNat 0)) ||| (bif zc1 .ne c then gL W T 0 k ||| gL W T 1 k else Int32.ofNat 0)
theorem zne_b {n J : Nat} (hn : n < 100000) (hJ : J < 100000) : zc2 .ne (Int32.ofNat n) (Int32.ofNat J) = !(Nat.beq n J) := by
  rw [zne2_n]
  have e : zc2 .eq (Int32.ofNat n) (Int32.ofNat J) = decide (Int32.ofNat n = Int32.ofNat J) := rfl
  rw [e, dkn hn hJ]
section ZAJ
variable {m : Nat → Nat → Int32} {t x u : Int32} {T : Nat}
theorem dk (h : LR m) (ht : T < nv (m 138) 9) (ht4 : T < 4) {k : Nat} (hk : k < nv (m 138) (376 + 103 * T + 22)) : mv m (1 + 11 + 7 * T) k = nv (m 138) (376 + 103 * T + (55 + 2 * k)) ∧ mv m (1 + 12 + 7 * T) k = nv (m 138) (376 + 103 * T + (55 + 2 * k + 1)) ∧ nv (m 138) (376 + 103 * T + (55 + 2 * k)) ≤ 7 ∧ (nv (m 138) (376 + 103 * T + (55 + 2 * k)) ≤ 1 → nv (m 138) (376 + 103 * T + (55 + 2 * k + 1)) ≤ 3) := by
  have h24 := (h.1.2.W.2 T ht4).2.2.2.1.2.2
  obtain ⟨d1, d2⟩ := h.1.1.deed ht4 ht hk (by omega)
  obtain ⟨D1, D2, D3, -⟩ := (h.1.2.W.2 T ht4).2.2.2.2.2.2.2 k (by omega)
  refine ⟨?_, ?_, D1.2.2, D3⟩
  · unfold mv nv; rw [d1]
  · unfold mv nv; rw [d2]
theorem blk2_eq (h : LR m) (ht : T < nv (m 138) 9) (ht4 : T < 4) : ∀ (n : Nat) (a : Int32) (k : Nat), k + n = nv (m 138) (376 + 103 * T + 22) → xl_blocksL2 m 1 T n a k = orL (gK (m 138) T 2) n a k := by
  intro n
  induction n with
  | zero => intro a k _; rfl
  | succ n ih =>
    intro a k hk
    obtain ⟨d1, d2, d3, -⟩ := dk h ht ht4 (k := k) (by omega)
    rw [xl_blocksL2, orL, d1, d2, block_eq h.1.1 h.1.2.W, ih _ _ (by omega), ih _ _ (by omega), zne_b (by omega) (by omega), gK]
    cases Nat.beq (nv (m 138) (376 + 103 * T + (55 + 2 * k))) 2 with
    | true => rw [Bool.not_true, cnF, cnT]
    | false => rw [Bool.not_false, cnT, cnF, orz]
theorem blk3_eq (h : LR m) (ht : T < nv (m 138) 9) (ht4 : T < 4) : ∀ (n : Nat) (a : Int32) (k : Nat), k + n = nv (m 138) (376 + 103 * T + 22) → xl_blocksL3 m 1 T n a k = orL (gK (m 138) T 3) n a k := by
  intro n
  induction n with
  | zero => intro a k _; rfl
  | succ n ih =>
    intro a k hk
    obtain ⟨d1, d2, d3, -⟩ := dk h ht ht4 (k := k) (by omega)
    rw [xl_blocksL3, orL, d1, d2, block_eq h.1.1 h.1.2.W, ih _ _ (by omega), ih _ _ (by omega), zne_b (by omega) (by omega), gK]
    cases Nat.beq (nv (m 138) (376 + 103 * T + (55 + 2 * k))) 3 with
    | true => rw [Bool.not_true, cnF, cnT]
    | false => rw [Bool.not_false, cnT, cnF, orz]
theorem lkw (h : LR m) {l : Nat} (hl : l < 4) : m (1 + 5 + l) 0 = m 138 (16 + l) := h.1.1.lkR (by omega) (by omega) (lt4 (P := fun l => cm (16 + l) = (5 + l, 0)) rfl rfl rfl rfl hl)
theorem blk0_eq (h : LR m) (ht : T < nv (m 138) 9) (ht4 : T < 4) : ∀ (n : Nat) (a : Int32) (k : Nat), k + n = nv (m 138) (376 + 103 * T + 22) → xl_blocksL0 m 1 T n a k = orL (gL (m 138) T 0) n a k := by
  intro n
  induction n with
  | zero => intro a k _; rfl
  | succ n ih =>
    intro a k hk
    obtain ⟨d1, d2, d3, d4⟩ := dk h ht ht4 (k := k) (by omega)
    rw [xl_blocksL0, orL, d1, d2, block_eq h.1.1 h.1.2.W, ih _ _ (by omega), ih _ _ (by omega), zne_b (by omega) (by omega), gL]
    cases hb : Nat.beq (nv (m 138) (376 + 103 * T + (55 + 2 * k))) 0 with
    | true =>
      have q := Nat.eq_of_beq_eq_true hb
      rw [Bool.not_true, cnF, cnT, lkw h (by omega)]
    | false => rw [Bool.not_false, cnT, cnF, orz]
theorem blk1_eq (h : LR m) (ht : T < nv (m 138) 9) (ht4 : T < 4) : ∀ (n : Nat) (a : Int32) (k : Nat), k + n = nv (m 138) (376 + 103 * T + 22) → xl_blocksL1 m 1 T n a k = orL (gL (m 138) T 1) n a k := by
  intro n
  induction n with
  | zero => intro a k _; rfl
  | succ n ih =>
    intro a k hk
    obtain ⟨d1, d2, d3, d4⟩ := dk h ht ht4 (k := k) (by omega)
    rw [xl_blocksL1, orL, d1, d2, block_eq h.1.1 h.1.2.W, ih _ _ (by omega), ih _ _ (by omega), zne_b (by omega) (by omega), gL]
    cases hb : Nat.beq (nv (m 138) (376 + 103 * T + (55 + 2 * k))) 1 with
    | true =>
      have q := Nat.eq_of_beq_eq_true hb
      rw [Bool.not_true, cnF, cnT, lkw h (by omega)]
    | false => rw [Bool.not_false, cnT, cnF, orz]
theorem touch_eq {W : Nat → Int32} {a b c : Int32} (hw : WG W) (ht4 : T < 4) : ∀ (n : Nat) (s : Int32) (k : Nat), k + n = nv W (376 + 103 * T + 22) → l_touched W T a b c n s k = orL (gR W T a b c) n s k := by
  intro n
  induction n with
  | zero => intro s k _; rfl
  | succ n ih =>
    intro s k hk
    have h24 := (hw.2 T ht4).2.2.2.1.2.2
    have hK := ((hw.2 T ht4).2.2.2.2.2.2.2 k (by omega)).1.2.2
    rw [l_touched, orL, gR, gK, gK, gL, gL]
    simp only [ih _ _ (show k + 1 + n = nv W (376 + 103 * T + 22) by omega)]
    revert hK
    generalize nv W (376 + 103 * T + (55 + 2 * k)) = K
    generalize q_blockOf W (Int32.ofNat (nv W (376 + 103 * T + (55 + 2 * k + 1)))) = B
    generalize q_blockOf W (W (16 + nv W (376 + 103 * T + (55 + 2 * k + 1)))) = D
    generalize orL (gR W T a b c) n = F
    intro hK
    rw [zne_n b, zeq_n a, zeq_n c, zne_n a, zne_n c]
    have zz : ∀ K, K ≤ 7 → zc2 .ne (Int32.ofNat K) (Int32.ofNat 2) = !(Nat.beq K 2) ∧ zc2 .ne (Int32.ofNat K) (Int32.ofNat 3) = !(Nat.beq K 3) ∧ zc2 .gt (Int32.ofNat K) (Int32.ofNat 1) = !(Nat.ble K 1) := by decide +kernel
    obtain ⟨z1, z2, z3⟩ := zz K hK
    rw [z1, z2, z3]
    match K, hK with
    | 0, _ => cases zc1 .eq a <;> cases zc1 .eq b <;> cases zc1 .eq c <;> simp [Nat.beq, Nat.ble, orz, orz2] <;> rfl
    | 1, _ => cases zc1 .eq a <;> cases zc1 .eq b <;> cases zc1 .eq c <;> simp [Nat.beq, Nat.ble, orz, orz2] <;> rfl
    | 2, _ => cases zc1 .eq a <;> cases zc1 .eq b <;> cases zc1 .eq c <;> simp [Nat.beq, Nat.ble, orz, orz2] <;> rfl
    | 3, _ => cases zc1 .eq a <;> cases zc1 .eq b <;> cases zc1 .eq c <;> simp [Nat.beq, Nat.ble, orz, orz2] <;> rfl
    | 4, _ => cases zc1 .eq a <;> cases zc1 .eq b <;> cases zc1 .eq c <;> simp [Nat.beq, Nat.ble, orz, orz2] <;> rfl
    | 5, _ => cases zc1 .eq a <;> cases zc1 .eq b <;> cases zc1 .eq c <;> simp [Nat.beq, Nat.ble, orz, orz2] <;> rfl
    | 6, _ => cases zc1 .eq a <;> cases zc1 .eq b <;> cases zc1 .eq c <;> simp [Nat.beq, Nat.ble, orz, orz2] <;> rfl
    | 7, _ => cases zc1 .eq a <;> cases zc1 .eq b <;> cases zc1 .eq c <;> simp [Nat.beq, Nat.ble, orz, orz2] <;> rfl
/-- the class's four, and what the reference makes of them -/
noncomputable def oK (W : Nat → Int32) (T J : Nat) : Int32 := orL (gK W T J) (nv W (376 + 103 * T + 22)) (Int32.ofNat 0) 0
noncomputable def oL (W : Nat → Int32) (T J : Nat) : Int32 := orL (gL W T J) (nv W (376 + 103 * T + 22)) (Int32.ofNat 0) 0
theorem blk_all (h : LR m) (ht : T < nv (m 138) 9) (ht4 : T < 4) : x_blocksOf0 m 1 T = oL (m 138) T 0 ∧ x_blocksOf1 m 1 T = oL (m 138) T 1 ∧ x_blocksOf2 m 1 T = oK (m 138) T 2 ∧ x_blocksOf3 m 1 T = oK (m 138) T 3 := by
  have e22 : m (1 + 10 + 7 * T) 2 = m 138 (376 + 103 * T + 22) := h.c ht ht4 (by omega) rfl
  have n22 : mv m (1 + 10 + 7 * T) 2 = nv (m 138) (376 + 103 * T + 22) := by unfold mv nv; rw [e22]
  unfold x_blocksOf0 x_blocksOf1 x_blocksOf2 x_blocksOf3
  rw [n22]
  exact ⟨blk0_eq h ht ht4 _ _ _ (by omega), blk1_eq h ht ht4 _ _ _ (by omega), blk2_eq h ht ht4 _ _ _ (by omega), blk3_eq h ht ht4 _ _ _ (by omega)⟩
theorem touched_all {W : Nat → Int32} (hw : WG W) (ht4 : T < 4) : q_touched W T (Int32.ofNat 0) (Int32.ofNat 1) (Int32.ofNat 1) = (oK W T 2 ||| oL W T 0) ||| oL W T 1 ∧ q_touched W T (Int32.ofNat 1) (Int32.ofNat 0) (Int32.ofNat 1) = (oK W T 3 ||| oL W T 0) ||| oL W T 1 ∧ q_touched W T (Int32.ofNat 1) (Int32.ofNat 0) (Int32.ofNat 0) = oK W T 3 ∧ q_touched W T (Int32.ofNat 1) (Int32.ofNat 1) (Int32.ofNat 0) = oK W T 2 ||| oK W T 3 := by
  have q : ∀ a b c, q_touched W T a b c = orL (gR W T a b c) (nv W (376 + 103 * T + 22)) (Int32.ofNat 0) 0 := fun a b c => touch_eq hw ht4 _ _ _ (by omega)
  rw [q, q, q, q]
  unfold oK oL
  rw [orL_or, orL_or, orL_or, orL_or, orL_or]
  refine ⟨orL_e _ _ _ (fun j _ _ => ?_), orL_e _ _ _ (fun j _ _ => ?_), orL_e _ _ _ (fun j _ _ => ?_), orL_e _ _ _ (fun j _ _ => ?_)⟩
  · rw [gR, zn1, zne0, cnT, cnF, orz, cnT, Int32.or_assoc]
  · rw [gR, zn1, zne0, cnF, cnT, orz2, cnT, Int32.or_assoc]
  · rw [gR, zn1, zne0, cnF, cnT, orz2, cnF, orz]
  · rw [gR, zn1, zne0, cnT, cnT, cnF, orz]
theorem an_touches (h : LR m) (M : Nat → Nat → Int32) : AN [0, 1] (e_touches m t x) ((q_touches M (m 138) t x).2 137 0) (q_touches M (m 138) t x).1 := by
  unfold e_touches q_touches
  rw [noT h M t, in01]
  cases hs : sOK m t with
  | false => simp only [cnF, zn1, cnT]; exact AN.x 0 rfl rfl
  | true =>
    obtain ⟨-, ht, ht4⟩ := sOK_n h hs
    simp only [cnT, zne0, cnF]
    obtain ⟨b0, b1, b2, b3⟩ := blk_all h ht ht4
    obtain ⟨t1, t2, -, -⟩ := touched_all h.1.2.W ht4
    cases hx : tOK x with
    | false => simp only [cnF]; exact AN.x 1 rfl rfl
    | true =>
      rw [b0, b1, b2, b3, t1, t2]
      simp only [cnT]
      rcases t01 hx with e | e
      · subst e
        rw [show zc1 .ne (Int32.ofNat (Int32.ofNat 0).toNatClampNeg) = false from by decide, show zc2 .ne (Int32.ofNat 0) (Int32.ofNat 1) = true from by decide, zne0, cnF, cnT, cnF]
        exact AN.v rfl rfl
      · subst e
        rw [show zc1 .ne (Int32.ofNat (Int32.ofNat 1).toNatClampNeg) = true from by decide, show zc2 .ne (Int32.ofNat 1) (Int32.ofNat 1) = false from by decide, zn1, cnT, cnF, cnT]
        exact AN.v rfl rfl
theorem riv_eq (A B C D : Int32) : (A &&& (B ||| C)) ||| (B &&& D) = (A &&& (C ||| B)) ||| (B &&& (D ||| A)) := by
  apply Int32.toBitVec_inj.mp
  simp only [Int32.toBitVec_or, Int32.toBitVec_and]
  apply BitVec.eq_of_getLsbD_eq
  intro i hi
  simp only [BitVec.getLsbD_or, BitVec.getLsbD_and]
  cases A.toBitVec.getLsbD i <;> cases B.toBitVec.getLsbD i <;> cases C.toBitVec.getLsbD i <;> cases D.toBitVec.getLsbD i <;> rfl
theorem an_rivals (h : LR m) (M : Nat → Nat → Int32) : AN [0, 2] (e_rivals m t u) ((q_rivals M (m 138) t u).2 137 0) (q_rivals M (m 138) t u).1 := by
  have h4 := h.1.2.W.N4
  have q9 : q_threads (m 138) = Int32.ofNat (nv (m 138) 9) := h.1.2.W.N
  have X : ∀ v, zc1 .ne (q_in v (Int32.ofNat 0) (q_threads (m 138) - Int32.ofNat 1)) = sOK m v := fun v => by
    rw [q9, in_rg, zoN (by omega), sub1 (by omega), sOK_rg, h.n]
    rfl
  unfold e_rivals q_rivals
  rw [zeq_n, X, X]
  cases hs : sOK m t with
  | false => simp only [cnF, Bool.not_false, cnT]; exact AN.x 0 rfl rfl
  | true =>
    obtain ⟨et, ht, ht4⟩ := sOK_n h hs
    simp only [cnT, Bool.not_true, cnF]
    cases hu : sOK m u with
    | false => simp only [cnF]; exact AN.x 0 rfl rfl
    | true =>
      obtain ⟨eu, gu, gu4⟩ := sOK_n h hu
      simp only [cnT]
      obtain ⟨-, -, b2, b3⟩ := blk_all h ht ht4
      obtain ⟨-, -, c2, c3⟩ := blk_all h gu gu4
      obtain ⟨-, -, t1, t2⟩ := touched_all h.1.2.W ht4
      obtain ⟨-, -, u1, u2⟩ := touched_all h.1.2.W gu4
      rw [b2, b3, c2, c3, t1, t2, u1, u2, ← et, ← eu]
      cases zc2 .ne t u with
      | true =>
        rw [cnT, cnT]
        exact AN.v rfl (riv_eq _ _ _ _)
      | false =>
        rw [cnF, cnF]
        exact AN.x 1 rfl rfl
theorem held_eq (h : LR m) (ht : T < nv (m 138) 9) (ht4 : T < 4) {k : Nat} (hk : k < nv (m 138) (376 + 103 * T + 22)) (s : Int32) : x_heldBehind m 1 T k s = q_heldBehind (m 138) T k s := by
  have h24 := (h.1.2.W.2 T ht4).2.2.2.1.2.2
  obtain ⟨d1, d2, d3, -⟩ := dk h ht ht4 hk
  obtain ⟨-, f2⟩ := h.1.1.deed ht4 ht hk (by omega)
  obtain ⟨D1, -, -, -⟩ := (h.1.2.W.2 T ht4).2.2.2.2.2.2.2 k (by omega)
  have q0 : q_deedOf (m 138) T k 0 = Int32.ofNat (nv (m 138) (376 + 103 * T + (55 + 2 * k))) := D1.1
  have q1 : q_deedOf (m 138) T k 1 = m 138 (376 + 103 * T + (55 + 2 * k + 1)) := rfl
  unfold x_heldBehind q_heldBehind x_numberAt
  rw [d1, f2, q0, q1]
  have zz : ∀ K, K ≤ 7 → zc1 .ne (Int32.ofNat K) = !(Nat.beq K 0) ∧ zc2 .ne (Int32.ofNat K) (Int32.ofNat 1) = !(Nat.beq K 1) := by decide +kernel
  obtain ⟨z1, z2⟩ := zz _ d3
  rw [z1, z2]
  cases Nat.beq (nv (m 138) (376 + 103 * T + (55 + 2 * k))) 0 with
  | true => rw [Bool.not_true, cnF, cnT]
  | false =>
    rw [Bool.not_false, cnT, cnF]
    cases Nat.beq (nv (m 138) (376 + 103 * T + (55 + 2 * k))) 1 <;> rfl
theorem nest_eq (h : LR m) (ht : T < nv (m 138) 9) (ht4 : T < 4) : ∀ (n : Nat) (a s : Int32) (k : Nat), k + n = nv (m 138) (376 + 103 * T + 22) → xl_mostHeld m 1 T n a s k = l_nest (m 138) T n s a k := by
  intro n
  induction n with
  | zero => intro a s k _; rfl
  | succ n ih =>
    intro a s k hk
    rw [xl_mostHeld, l_nest, held_eq h ht ht4 (by omega), bitCount_eq, ih _ _ _ (by omega)]
theorem n22 (h : LR m) (ht : T < nv (m 138) 9) (ht4 : T < 4) : mv m (1 + 10 + 7 * T) 2 = nv (m 138) (376 + 103 * T + 22) := by
  have e22 : m (1 + 10 + 7 * T) 2 = m 138 (376 + 103 * T + 22) := h.c ht ht4 (by omega) rfl
  unfold mv nv
  rw [e22]
theorem an_nest (h : LR m) (M : Nat → Nat → Int32) : AN [0] (e_nest m t) ((q_nest M (m 138) t).2 137 0) (q_nest M (m 138) t).1 := by
  unfold e_nest q_nest
  rw [noT h M t]
  cases hs : sOK m t with
  | false => simp only [cnF, zeq1']; exact AN.x 0 rfl rfl
  | true =>
    obtain ⟨-, ht, ht4⟩ := sOK_n h hs
    simp only [cnT, zeq0]
    refine AN.v rfl ?_
    unfold x_mostHeld
    rw [n22 h ht ht4]
    exact nest_eq h ht ht4 _ _ _ _ (by omega)
theorem pendL (h : LR m) (ht : T < nv (m 138) 9) (ht4 : T < 4) {p : Nat} : ∀ (n : Nat) (s : Int32) (k : Nat), k + n + 1 = nv (m 138) (376 + 103 * T + 22) → xl_partEnd m 1 T p (n + 1) s k = l_behindPart (m 138) T n s k := by
  intro n
  induction n with
  | zero =>
    intro s k hk
    rw [xl_partEnd, xl_partEnd, l_behindPart, n22 h ht ht4, show nv (m 138) (376 + 103 * T + 22) = k + 1 by omega]
    cases zc1 .ne (x_heldBehind m 1 T k s) <;> rfl
  | succ n ih =>
    intro s k hk
    rw [xl_partEnd, l_behindPart, held_eq h ht ht4 (by omega), ih _ _ (by omega)]
theorem pend_eq (h : LR m) (ht : T < nv (m 138) 9) (ht4 : T < 4) {p : Nat} (hp : p < nv (m 138) (376 + 103 * T + 22)) : x_partEnd m 1 T p = q_behindPart (m 138) T p := by
  have h24 := (h.1.2.W.2 T ht4).2.2.2.1.2.2
  obtain ⟨D1, -, -, -⟩ := (h.1.2.W.2 T ht4).2.2.2.2.2.2.2 p (by omega)
  obtain ⟨d1, -⟩ := h.1.1.deed ht4 ht hp (by omega)
  unfold x_partEnd q_behindPart x_kindAt
  rw [d1, D1.1, n22 h ht ht4, show nv (m 138) (376 + 103 * T + 22) - p = (nv (m 138) (376 + 103 * T + 22) - 1 - p) + 1 by omega, pendL h ht ht4 _ _ _ (by omega)]
  have d3 := D1.2.2
  have zz : ∀ K, K ≤ 7 → zc1 .eq (Int32.ofNat K) = Nat.beq K 0 ∧ zc1 .ne (Int32.ofNat K) = !(Nat.beq K 0) ∧ zc2 .ne (Int32.ofNat K) (Int32.ofNat 1) = !(Nat.beq K 1) := by decide +kernel
  obtain ⟨z0, z1, z2⟩ := zz _ d3
  rw [z0]
  cases hb : Nat.beq (nv (m 138) (376 + 103 * T + (55 + 2 * p))) 0 with
  | true => rw [cnT]
  | false =>
    rw [cnF]
    have q0 : q_deedOf (m 138) T p 0 = Int32.ofNat (nv (m 138) (376 + 103 * T + (55 + 2 * p))) := D1.1
    have e : q_heldBehind (m 138) T p (Int32.ofNat 0) = Int32.ofNat 0 := by
      unfold q_heldBehind
      rw [q0, z1, z2, hb, Bool.not_false, cnT]
      exact cndi (fun q : Int32 => q = Int32.ofNat 0) rfl Int32.zero_and
    cases hn : nv (m 138) (376 + 103 * T + 22) - 1 - p with
    | zero => rfl
    | succ n => rw [l_behindPart, e, zne0, cnF]
theorem count_eq (h : LR m) (ht : T < nv (m 138) 9) (ht4 : T < 4) : ∀ (q n c p : Nat), nv (m 138) (376 + 103 * T + 22) ≤ p + q → nv (m 138) (376 + 103 * T + 22) ≤ p + n → p ≤ 24 → xl_partCount m 1 T n c p = l_partsOf (m 138) T q c p := by
  have h24 := (h.1.2.W.2 T ht4).2.2.2.1.2.2
  intro q
  induction q with
  | zero =>
    intro n c p h1 h2 hp
    cases n with
    | zero => rfl
    | succ n => rw [xl_partCount, l_partsOf, n22 h ht ht4, zcge (by omega) (by omega) (by omega), cnT]
  | succ q ih =>
    intro n c p h1 h2 hp
    cases n with
    | zero => rw [xl_partCount, l_partsOf, zcge (by omega) (by omega) (by omega), cnT]
    | succ n =>
      rw [xl_partCount, l_partsOf, n22 h ht ht4]
      by_cases hl : nv (m 138) (376 + 103 * T + 22) ≤ p
      · rw [zcge (by omega) (by omega) hl, cnT, cnT]
      · rw [zcge_f (by omega) (by omega) (by omega), cnF, cnF]
        obtain ⟨b1, b2, b3⟩ := bp_n h.1.2.W ht4 (show p < nv (m 138) (376 + 103 * T + 22) by omega)
        have e : pen m 1 T p = bpn (m 138) T p := by
          unfold pen bpn
          rw [pend_eq h ht ht4 (by omega)]
        rw [e]
        exact ih _ _ _ (by omega) (by omega) (by omega)
theorem pcount (h : LR m) (ht : T < nv (m 138) 9) (ht4 : T < 4) : x_partCount m 1 T = q_partsOf (m 138) T := by
  have h24 := (h.1.2.W.2 T ht4).2.2.2.1.2.2
  exact count_eq h ht ht4 _ _ _ _ (by omega) (by omega) (by omega)
theorem an_parts (h : LR m) (M : Nat → Nat → Int32) : AN [0] (e_parts m t) ((q_parts M (m 138) t).2 137 0) (q_parts M (m 138) t).1 := by
  unfold e_parts q_parts
  rw [noT h M t]
  cases hs : sOK m t with
  | false => simp only [cnF, zeq1']; exact AN.x 0 rfl rfl
  | true =>
    obtain ⟨-, ht, ht4⟩ := sOK_n h hs
    simp only [cnT, zeq0]
    exact AN.v rfl (pcount h ht ht4)
end ZAJ
end
section
/-! calls that change something, alike -/
/-- a call: answers alike, worlds alike behind it, the rest of the class left alone -/
noncomputable def CH (L : List Nat) (m : Nat → Nat → Int32) (E : (Int32 ⊕ Nat) × (Nat → Nat → Int32)) (Q : Int32 × (Nat → Int32) × (Nat → Nat → Int32)) : Prop := AN L E.1 (Q.2.2 137 0) Q.1 ∧ RC E.2 1 Q.2.1 ∧ WZ Q.2.1 ∧ TX Q.2.1 ∧ ∀ i l, i = 0 ∨ (85 ≤ i ∧ i ≠ 131) → E.2 i l = m i l
section ZCH
variable {m M : Nat → Nat → Int32} {t x n w v : Int32} {L : List Nat}
theorem CH.no {Y : Int32 ⊕ Nat} {q : Int32} {M' : Nat → Nat → Int32} (h : LR m) (a : AN L Y (M' 137 0) q) : CH L m (Y, m) (q, m 138, M') := ⟨a, h.1.1, h.1.2, h.2.2.2.2.2.2.1, fun _ _ _ => rfl⟩
theorem WZ.lt {W : Nat → Int32} (h : WZ W) : WLT W := ⟨h.W, h.2.1⟩
theorem stepsE_10x {W : Nat → Int32} {mm : Nat → Nat → Int32} {t : Nat} {on : Int32} : (q_stepsE mm W t on).2 10 = W 10 := by
  unfold q_stepsE
  have e : upd (upd W 12 (Int32.ofNat t)) 11 (upd W 12 (Int32.ofNat t) 11 + Int32.ofNat 1) 10 = W 10 := by
    rw [upd_ne _ _ (by omega), upd_ne _ _ (by omega)]
  exact cndi (fun q : Int32 × (Nat → Int32) => q.2 10 = W 10) (cndi (fun q : Int32 × (Nat → Int32) => q.2 10 = W 10) e e) e
theorem steps_10x {W : Nat → Int32} {mm : Nat → Nat → Int32} {t : Nat} (h : KG W t) (ht : t < 4) : (q_steps mm W t).2.1 10 = W 10 := by
  obtain ⟨d24, D1, D2, D3, D4⟩ := h.deed ht
  have d := does_k (mm := zm2 mm 137 5 (Int32.ofNat 0)) (k := 10) (by omega) h ht D3 D4
  have kg := (does_ok (m := zm2 mm 137 5 (Int32.ofNat 0)) (n := nv W (376 + 103 * t + (55 + 2 * nv W (376 + 103 * t + 0) + 1))) h ht (K := nv W (376 + 103 * t + (55 + 2 * nv W (376 + 103 * t + 0)))) (by have := D1.2.2; omega) D3 D4).1
  unfold q_steps
  generalize q_does (zm2 mm 137 5 (Int32.ofNat 0)) W t (nv W (376 + 103 * t + (55 + 2 * nv W (376 + 103 * t + 0)))) (nv W (376 + 103 * t + (55 + 2 * nv W (376 + 103 * t + 0) + 1))) = c at d kg ⊢
  have d' : c.2.1 10 = W 10 := d
  have w := kg.adv ht
  have e1 : upd c.2.1 (376 + 103 * t + 0) (c.2.1 (376 + 103 * t + 0) + Int32.ofNat 1) 10 = W 10 := (upd_ne _ _ (by omega)).trans d'
  refine cndi (fun q : QT => q.2.1 10 = W 10) (stepsE_10x.trans (by rw [d'])) ?_
  generalize upd c.2.1 (376 + 103 * t + 0) (c.2.1 (376 + 103 * t + 0) + Int32.ofNat 1) = V at w e1 ⊢
  unfold q_stepsD
  refine cndi (fun q : QT => q.2.1 10 = W 10) (stepsE_10x.trans (by rw [e1])) (cndi (fun q : QT => q.2.1 10 = W 10) (stepsE_10x.trans ?_) ?_)
  · rw [logs_fr w.C (by omega) (by omega), e1]
  · dsimp only
    rw [stepsE_10x]
    show q_falls V t 2 10 = W 10
    rw [falls_6 w ht (by omega) (by omega), e1]
theorem an_step (h : LR m) (hx : XI m) : CH [0, 4] m (e_step m t) (q_step M (m 138) t) := by
  unfold e_step q_step
  rw [noT h M t]
  cases hs : sOK m t with
  | false => simp only [cnF, zn1, cnT]; exact CH.no h (AN.x 0 rfl rfl)
  | true =>
    obtain ⟨-, ht, ht4⟩ := sOK_n h hs
    simp only [cnT, zne0, cnF]
    revert ht ht4
    generalize t.toNatClampNeg = T
    intro ht ht4
    have g7 : m 1 7 = m 138 11 := h.1.1.globR (k := 11) (o := 0) (s := 7) (by omega) (by omega) rfl
    have e1 : zc2 .lt (m 138 11) (Int32.ofNat 99999) = !(zc2 .ge (m 138 11) (Int32.ofNat 99999)) := by rw [zge_n, Bool.not_not]
    rw [sdone_eq h.1.1 h.1.2.W ht, g7, e1, zne2_n, h.1.2.2.2.e]
    cases hd : zc1 .ne (q_isDone (m 138) T) with
    | true => simp only [cnT]; exact CH.no h (AN.x 1 rfl rfl)
    | false =>
      cases hg : zc2 .ge (m 138 11) (Int32.ofNat 99999) with
      | true => simp only [cnF, Bool.not_true]; exact CH.no h (AN.x 1 rfl rfl)
      | false =>
        simp only [cnF, cnT, Bool.not_false]
        have kg := nd_KG h.1.2.W ht4 hd
        have r0 : RC (zm2 m 131 8 (Int32.ofNat 0)) 1 (m 138) := h.1.1.far (fun i l h1 h2 => zx_ne _ _ _ (by omega))
        have x0 := hx.forget (l := 8) (x := Int32.ofNat 0)
        obtain ⟨s1, s2, s3, s4⟩ := step_ry (mm := zm2 M 137 0 (Int32.ofNat 0)) r0 h.1.2.1 x0.1.1 ht kg.2
        have hd2 : zc1 .ne (x_sDone m 1 T) = false := by rw [sdone_eq h.1.1 h.1.2.W ht]; exact hd
        have hr : KX (zm2 m 131 8 (Int32.ofNat 0)) 1 (fun u => u = T) := (hx.1.2.run ht4 (c1ne0 hd2)).far (by omega)
        have f : FB (x_takeStep (zm2 m 131 8 (Int32.ofNat 0)) 1 T).2 1 (zm2 m 131 8 (Int32.ofNat 0)) := FB.refl.takeStep x0.1.1 hr ht4
        exact ⟨AN.v ((steps_m0 kg ht4).trans rfl) s1, s2, ⟨s3, steps_LT kg ht4, steps_TK kg ht4 h.1.2.2.2 hg⟩, ok.of h.2.2.2.2.2.2.1 (steps_10x kg ht4), fun i l hi => (f i l (by omega)).trans (zx_ne _ _ _ (by omega))⟩
theorem goT_TK {q : Nat} : ∀ (n k : Nat) (W : Nat → Int32) (mm : Nat → Nat → Int32), WG W → LT W → TK W → TK (l_goesT q n k W mm).2.1 := by
  intro n
  induction n with
  | zero => intro k W mm _ _ hT; exact hT
  | succ n ih =>
    intro k W mm h hL hT
    rw [l_goesT]
    refine cndh (fun q : QT => TK q.2.1) (fun _ => hT) (fun hc => cndh (fun q : QT => TK q.2.1) (fun _ => hT) (fun hg => ?_))
    obtain ⟨-, n4, nk⟩ := next_n h hL hc
    have hs := steps_ok (m := mm) nk n4
    exact ih _ _ _ hs.1 (LT_of hs.2 n4) (steps_TK nk n4 hT hg)
theorem drawn_TK {W : Nat → Int32} (h : TK W) : TK (q_drawnOne W).2 := ok.of h (show upd W 13 (W 13 * Int32.ofNat 1103515245 + Int32.ofNat 12345) 11 = W 11 from upd_ne _ _ (by omega))
theorem goD_TK {q : Nat} : ∀ (n k : Nat) (W : Nat → Int32) (mm : Nat → Nat → Int32), WG W → LT W → TK W → TK (l_goesD q n k W mm).2.1 := by
  intro n
  induction n with
  | zero => intro k W mm _ _ hT; exact hT
  | succ n ih =>
    intro k W mm h hL hT
    rw [l_goesD]
    refine cndh (fun q : QT => TK q.2.1) (fun _ => hT) (fun hc => cndh (fun q : QT => TK q.2.1) (fun _ => hT) (fun hg => ?_))
    obtain ⟨-, n4, nk⟩ := drawn_n h hc
    have hs := steps_ok (m := mm) nk n4
    have e11 : (q_drawnOne W).2 11 = W 11 := show upd W 13 (W 13 * Int32.ofNat 1103515245 + Int32.ofNat 12345) 11 = W 11 from upd_ne _ _ (by omega)
    exact ih _ _ _ hs.1 (LT_of hs.2 n4) (steps_TK nk n4 (drawn_TK hT) (by rw [e11]; exact hg))
theorem goT_10 {q : Nat} : ∀ (n k : Nat) (W : Nat → Int32) (mm : Nat → Nat → Int32), WG W → LT W → (l_goesT q n k W mm).2.1 10 = W 10 := by
  intro n
  induction n with
  | zero => intro k W mm _ _; rfl
  | succ n ih =>
    intro k W mm h hL
    rw [l_goesT]
    refine cndh (fun q : QT => q.2.1 10 = W 10) (fun _ => rfl) (fun hc => cndh (fun q : QT => q.2.1 10 = W 10) (fun _ => rfl) (fun hg => ?_))
    obtain ⟨-, n4, nk⟩ := next_n h hL hc
    have hs := steps_ok (m := mm) nk n4
    exact (ih _ _ _ hs.1 (LT_of hs.2 n4)).trans (steps_10x nk n4)
theorem goD_10 {q : Nat} : ∀ (n k : Nat) (W : Nat → Int32) (mm : Nat → Nat → Int32), WG W → LT W → (l_goesD q n k W mm).2.1 10 = W 10 := by
  intro n
  induction n with
  | zero => intro k W mm _ _; rfl
  | succ n ih =>
    intro k W mm h hL
    rw [l_goesD]
    refine cndh (fun q : QT => q.2.1 10 = W 10) (fun _ => rfl) (fun hc => cndh (fun q : QT => q.2.1 10 = W 10) (fun _ => rfl) (fun hg => ?_))
    obtain ⟨-, n4, nk⟩ := drawn_n h hc
    have hs := steps_ok (m := mm) nk n4
    have e10 : (q_drawnOne W).2 10 = W 10 := show upd W 13 (W 13 * Int32.ofNat 1103515245 + Int32.ofNat 12345) 10 = W 10 from upd_ne _ _ (by omega)
    exact ((ih _ _ _ hs.1 (LT_of hs.2 n4)).trans (steps_10x nk n4)).trans e10
theorem in100 (n : Int32) : zc1 .ne (q_in n (Int32.ofNat 1) (Int32.ofNat 100)) = kOK n := by
  rw [in_rg, kOK_rg, zoN (by omega), zoN (by omega)]
  rfl
theorem an_run (h : LR m) (hx : XI m) : CH [2] m (e_run m n) (q_run M (m 138) n) := by
  unfold e_run q_run
  rw [in100]
  cases kOK n with
  | false => simp only [cnF]; exact CH.no h (AN.x 0 rfl rfl)
  | true =>
    simp only [cnT]
    have r0 : RC (zm2 m 131 8 (Int32.ofNat 0)) 1 (m 138) := h.1.1.far (fun i l h1 h2 => zx_ne _ _ _ (by omega))
    have x0 := hx.forget (l := 8) (x := Int32.ofNat 0)
    obtain ⟨s1, s2, s3, s4, s5⟩ := goT_rx (b := 0) (n0 := n.toNatClampNeg) (q := n.toNatClampNeg) n.toNatClampNeg 0 (zm2 m 131 8 (Int32.ofNat 0)) (m 138) (zm2 M 137 0 (Int32.ofNat 0)) r0 h.1.2.1 x0.1.1 h.1.2.2.1
    have g := goTurnL_o (P := zm2 m 131 8 (Int32.ofNat 0)) (n0 := n.toNatClampNeg) n.toNatClampNeg 0 (zm2 m 131 8 (Int32.ofNat 0)) x0.1.1 x0.1.2 FB.refl
    exact ⟨AN.v ((goesT_m0 _ _ _ _ h.1.2.W h.1.2.2.1).trans rfl) s1, s2, ⟨s3, s5, goT_TK _ _ _ _ h.1.2.W h.1.2.2.1 h.1.2.2.2⟩, ok.of h.2.2.2.2.2.2.1 (goT_10 _ _ _ _ h.1.2.W h.1.2.2.1), fun i l hi => (g.2.2 i l (by omega)).trans (zx_ne _ _ _ (by omega))⟩
theorem an_chance (h : LR m) (hx : XI m) : CH [2] m (e_chance m n) (q_chance M (m 138) n) := by
  unfold e_chance q_chance
  rw [in100]
  cases kOK n with
  | false => simp only [cnF]; exact CH.no h (AN.x 0 rfl rfl)
  | true =>
    simp only [cnT]
    have r0 : RC (zm2 m 131 8 (Int32.ofNat 0)) 1 (m 138) := h.1.1.far (fun i l h1 h2 => zx_ne _ _ _ (by omega))
    have x0 := hx.forget (l := 8) (x := Int32.ofNat 0)
    obtain ⟨s1, s2, s3, s4, s5⟩ := goD_rx (n0 := n.toNatClampNeg) (q := n.toNatClampNeg) n.toNatClampNeg 0 (zm2 m 131 8 (Int32.ofNat 0)) (m 138) (zm2 M 137 0 (Int32.ofNat 0)) r0 h.1.2.1 x0.1.1 h.1.2.2.1
    have g := goDrawL_o (P := zm2 m 131 8 (Int32.ofNat 0)) (n0 := n.toNatClampNeg) n.toNatClampNeg 0 (zm2 m 131 8 (Int32.ofNat 0)) x0.1.1 x0.1.2 FB.refl
    exact ⟨AN.v ((goesD_m0 _ _ _ _ h.1.2.W h.1.2.2.1).trans rfl) s1, s2, ⟨s3, s5, goD_TK _ _ _ _ h.1.2.W h.1.2.2.1 h.1.2.2.2⟩, ok.of h.2.2.2.2.2.2.1 (goD_10 _ _ _ _ h.1.2.W h.1.2.2.1), fun i l hi => (g.2.2 i l (by omega)).trans (zx_ne _ _ _ (by omega))⟩
theorem clearsL_k {W0 : Nat → Int32} {tt s : Int32} {n9 j : Nat} (hj : j < 15) (hn : n9 ≤ 4) : ∀ (n k : Nat) (W : Nat → Int32), k + n = n9 → WG W → (l_clears tt s n9 n k W).2 j = W j := by
  intro n
  induction n with
  | zero => intro k W _ _; rfl
  | succ n ih =>
    intro k W hk h
    rw [l_clears]
    exact cndi (fun q : Int32 × (Nat → Int32) => q.2 j = W j) (ih _ _ (by omega) h) ((ih _ _ (by omega) (h.falls (by omega) (by omega))).trans (falls_6 h (by omega) (by omega) hj))
theorem writesX_11 {W : Nat → Int32} {u : Nat} {y : Int32} (h : WG W) : (q_writesX W u y).2 11 = W 11 := by
  unfold q_writesX
  have a : ∀ s, (q_clearsX W s).2 11 = W 11 := fun s => clearsL_k (W0 := W) (by omega) h.N4 _ _ _ (by omega) h
  exact cndi (fun q : Int32 × (Nat → Int32) => q.2 11 = W 11) ((upd_ne _ _ (by omega)).trans (a _)) (a _)
theorem writesX_10 {W : Nat → Int32} {u : Nat} {y : Int32} (h : WG W) : (q_writesX W u y).2 10 = W 10 := by
  unfold q_writesX
  have a : ∀ s, (q_clearsX W s).2 10 = W 10 := fun s => clearsL_k (W0 := W) (by omega) h.N4 _ _ _ (by omega) h
  exact cndi (fun q : Int32 × (Nat → Int32) => q.2 10 = W 10) ((upd_ne _ _ (by omega)).trans (a _)) (a _)
theorem an_poke (h : LR m) (hx : XI m) : CH [0, 2] m (e_poke m w v) (q_poke M (m 138) w v) := by
  have e1 : zc1 .ne (q_in w (Int32.ofNat 0) (Int32.ofNat 31)) = wOK w := by
    rw [in_rg, wOK_rg, zoN (by omega), zoN (by omega)]
    rfl
  unfold e_poke q_poke
  rw [e1, in_rg, zoN (by omega), zoN (by omega)]
  cases hw : wOK w with
  | false => simp only [cnF]; exact CH.no h (AN.x 0 rfl rfl)
  | true =>
    rw [wOK_rg] at hw
    obtain ⟨-, hn⟩ := rg_n hw
    simp only [cnT]
    cases hv : rg v ((0 : Nat) : Int) (((9999 : Nat) : Int) + 1) with
    | false =>
      simp only [cnF]
      rcases rg_F (x := Int32.ofNat 10000) (by rw [zoN (by omega)]; exact hv) with r | ⟨r1, r2, -⟩
      · rw [r, cnT]; exact CH.no h (AN.x 1 rfl rfl)
      · rw [r1, cnF, r2, cnF]; exact CH.no h (AN.x 1 rfl rfl)
    | true =>
      obtain ⟨ev, hV⟩ := rg_n (n := 10000) hv
      obtain ⟨r1, r2, -⟩ := rg_T (x := Int32.ofNat 10000) (by rw [zoN (by omega)]; exact hv)
      rw [r1, cnF, r2, cnT, cnT]
      have hx1 : vx v := ⟨_, by omega, ev⟩
      have hm1 : ¬ v = -1 := fun e => by
        have a := (of_decide_eq_true hv).1
        rw [e] at a
        exact absurd a (by decide)
      have r0 : RC (zm2 m 131 8 (Int32.ofNat 0)) 1 (m 138) := h.1.1.far (fun i l h1 h2 => zx_ne _ _ _ (by omega))
      have x0 := hx.forget (l := 8) (x := Int32.ofNat 0)
      obtain ⟨p1, p2, p3⟩ := poke_rx (w := w.toNatClampNeg) r0 h.1.2.1 x0.1.1 (by omega) hm1 hx1
      have g := reachX_ok (P := zm2 m 131 8 (Int32.ofNat 0)) (w := w.toNatClampNeg) (v := v) x0.1.1 x0.1.2 FB.refl
      exact ⟨AN.v rfl (h.1.1.globR (by omega) (by omega) (cm_w (by omega))), p1, ⟨p2, LT_eq h.1.2.2.1 (writesX_12 h.1.2.W), ok.of h.1.2.2.2 (writesX_11 h.1.2.W)⟩, ok.of h.2.2.2.2.2.2.1 (writesX_10 h.1.2.W), fun i l hi => (g.2.2 i l (by omega)).trans (zx_ne _ _ _ (by omega))⟩
theorem zla_8 : ∀ K, 1 ≤ K → K ≤ 8 → (zla 0).getD K 0 = q_leastOf K ∧ (zla 1).getD K 0 = q_mostOf K ∧ q_leastOf K = Int32.ofNat (trl K) ∧ q_mostOf K = Int32.ofNat (trh K) := by
  intro K h1 h8
  by_cases e : K = 8
  · subst e; exact ⟨rfl, rfl, rfl, rfl⟩
  · exact zla_t K h1 (by omega)
theorem btw_rg {y a b : Int32} : (!zc2 .lt y a && zc2 .le y b) = rg y a.toInt (b.toInt + 1) := by
  have e1 : zc2 .lt y a = decide (y < a) := rfl
  have e2 : zc2 .le y b = decide (y ≤ b) := rfl
  unfold rg
  rw [e1, e2, Bool.decide_and]
  congr 1
  · rw [← decide_not]
    refine decide_eq_decide.mpr ?_
    rw [Int32.lt_iff_toInt_lt]
    omega
  · refine decide_eq_decide.mpr ?_
    rw [Int32.le_iff_toInt_le]
    omega
theorem btw_c {α : Type} {y a b : Int32} (A B : α) : (bif zc2 .lt y a then B else bif zc2 .le y b then A else B) = bif rg y a.toInt (b.toInt + 1) then A else B := by
  rw [← btw_rg]
  cases zc2 .lt y a <;> cases zc2 .le y b <;> rfl
theorem an_tune (h : LR m) : CH [1, 2] m (e_tune m x n) (q_tune M (m 138) x n) := by
  unfold e_tune q_tune
  rw [in_rg, in_rg, btw_c, btw_c]
  cases hx : rg x (Int32.ofNat 1).toInt ((Int32.ofNat 8).toInt + 1) with
  | false => simp only [cnF]; exact CH.no h (AN.x 0 rfl rfl)
  | true =>
    have q := of_decide_eq_true hx
    rw [zoN (by omega), zoN (by omega)] at q
    obtain ⟨a, b⟩ := nat_ge (x := x) (by omega)
    obtain ⟨z1, z2, z3, z4⟩ := zla_8 x.toNatClampNeg (by omega) (by omega)
    simp only [cnT]
    rw [z1, z2]
    cases hn : rg n (q_leastOf x.toNatClampNeg).toInt ((q_mostOf x.toNatClampNeg).toInt + 1) with
    | false => simp only [cnF]; exact CH.no h (AN.x 1 rfl rfl)
    | true =>
      have hb := trh_16 x.toNatClampNeg (by omega)
      have hb2 : trl x.toNatClampNeg ≤ 16 := by
        have : ∀ k, k < 9 → trl k ≤ 16 := by decide
        exact this _ (by omega)
      have p := of_decide_eq_true hn
      rw [z3, z4, zoN (by omega), zoN (by omega)] at p
      obtain ⟨c, d⟩ := nat_ge (x := n) (by omega)
      simp only [cnT]
      refine ⟨AN.v rfl (h.1.1.globR (by omega) (by omega) (cm_3 (by omega))), h.1.1.globS h.1.2.W.C (by omega) (by omega) (by omega) (cm_3 (by omega)), ?_, ok.of h.2.2.2.2.2.2.1 (upd_ne _ _ (by omega)), fun i l hi => zx_ne _ _ _ (by omega)⟩
      show WZ (upd (m 138) x.toNatClampNeg n)
      rw [c]
      exact h.1.2.term (by omega) (by omega) (by omega)
theorem an_seed (h : LR m) : (e_seed m n).1 = (q_seed M (m 138) n).1 ∧ RC (e_seed m n).2 1 (q_seed M (m 138) n).2.1 ∧ WZ (q_seed M (m 138) n).2.1 ∧ TX (q_seed M (m 138) n).2.1 ∧ ∀ i l, i = 0 ∨ (85 ≤ i ∧ i ≠ 131) → (e_seed m n).2 i l = m i l := ⟨h.1.1.globR (k := 13) (o := 0) (s := 9) (by omega) (by omega) rfl, h.1.1.globS (k := 13) (o := 0) (s := 9) h.1.2.W.C (by omega) (by omega) (by omega) rfl, h.1.2.gen (by omega) (h.1.2.W.put _ (fre_lo (by omega) (by omega))) (by omega) (by omega) (by omega), ok.of h.2.2.2.2.2.2.1 (show upd (m 138) 13 n 10 = m 138 10 from upd_ne _ _ (by omega)), fun i l hi => zx_ne _ _ _ (by omega)⟩
theorem an_back (h : LR m) (hx : XI m) (h4 : M 137 4 = m 137 4) (h9 : M 139 = m 139) : (e_back m).1 = (q_back M (m 138)).1 ∧ RC (e_back m).2 1 (q_back M (m 138)).2.1 ∧ WZ (q_back M (m 138)).2.1 ∧ TX (q_back M (m 138)).2.1 ∧ ∀ i l, i = 0 ∨ (85 ≤ i ∧ i ≠ 131) → (e_back m).2 i l = m i l := by
  unfold e_back q_back
  rw [zx_nk _ _ (by decide), h4, h.2.2.1, show zm2 M 137 0 (Int32.ofNat 0) 139 = m 139 from (funext (fun l => zx_ne _ _ _ (by decide))).trans h9]
  cases hc : zc1 .ne (m 137 4) with
  | false => exact ⟨rfl, h.1.1, h.1.2, h.2.2.2.2.2.2.1, fun _ _ _ => rfl⟩
  | true =>
    have h5 : ¬ m 137 4 = 0 := of_decide_eq_true hc
    have hw : RC m 85 (m 139) ∧ WZ (m 139) := by
      rcases h.2.1 with e | e
      · exact absurd e h5
      · exact e
    have hx9 : TX (m 139) := by
      rcases h.2.2.2.2.2.2.2 with e | e
      · exact absurd e h5
      · exact e
    have e : ∀ k, k < 788 → crow (m 139) (m 138) k = m 139 k := crow_of _ _
    have f : FB (x_copyFrom m 1 85) 1 m := FB.copy (Or.inl (by omega)) hx.2.2.1.1 FB.refl
    exact ⟨rfl, ((hw.1.copy (b := 1) hw.2.W (Or.inl (by omega)) hx.2.2.1.1).far (fun i l h1 h2 => zx_ne _ _ _ (by omega))).of hw.2.W e, hw.2.of e, ok.of hx9 (e 10 (by omega)), fun i l hi => (zx_ne _ _ _ (by omega)).trans (f i l (by omega))⟩
end ZCH
end
section
/-! reading leaves the count of texts alone -/
noncomputable def R10 (c : Int32) (X : Int32 × (Nat → Int32) × Nat × Nat) : Prop := X.2.1 10 = c
section ZR0
variable {m : Nat → Nat → Int32} {W : Nat → Int32} {p b t : Nat} {c : Int32}
theorem R10.mk {v : Int32} (h : W 10 = c) : R10 c (v, W, p, b) := h
theorem R10.eta {X : Int32 × (Nat → Int32) × Nat × Nat} (h : R10 c X) : R10 c (X.1, X.2.1, X.2.2.1, X.2.2.2) := h
theorem R10.m2 {X : Int32 × (Nat → Int32) × Nat × Nat} {v : Int32} (h : R10 c X) : R10 c (v, X.2.1, p, b) := h
theorem u10 {k : Nat} {x : Int32} (hk : 10 ≠ k) (h : W 10 = c) : upd W k x 10 = c := (upd_ne _ _ hk).trans h
theorem readTo_10 {k : Nat} {lo hi : Int32} (hk : 10 ≠ k) (h : W 10 = c) : R10 c (q_readTo m W p k lo hi) := by
  unfold q_readTo
  exact cndi (R10 c) (R10.mk h) (R10.mk (u10 hk h))
theorem readDeed_10 {L : Nat} (h : W 10 = c) : R10 c (q_readDeed m W p t L) := by
  unfold q_readDeed
  repeat' (refine cndi (R10 c) ?_ ?_)
  all_goals first
    | (refine R10.mk ?_; (repeat' (first | refine u10 (by omega) ?_ | exact h)); done)
    | (repeat' (first | exact h | refine u10 (by omega) ?_))
theorem deeds_10 : ∀ (n L : Nat) (W : Nat → Int32) (p b : Nat), W 10 = c → R10 c (l_deeds m t n L W p b) := by
  intro n
  induction n with
  | zero => intro L W p b h; rw [l_deeds]; exact R10.m2 (readDeed_10 h)
  | succ n ih =>
    intro L W p b h
    have r : R10 c (q_readDeed m W p t L) := readDeed_10 h
    rw [l_deeds]
    generalize q_readDeed m W p t L = X at r ⊢
    exact cndi (R10 c) (cndi (R10 c) (ih _ _ _ _ r) (R10.m2 r)) (R10.m2 r)
theorem rclears_10 : ∀ (n k : Nat) (W : Nat → Int32), W 10 = c → R10 c (l_rclears m p b t n k W) := by
  intro n
  induction n with
  | zero => intro k W h; rw [l_rclears]; unfold q_thread37; exact deeds_10 _ _ _ _ _ (u10 (by omega) h)
  | succ n ih => intro k W h; rw [l_rclears]; exact ih _ _ (u10 (by omega) h)
theorem readThread_10 (h : W 10 = c) : R10 c (q_readThread m W p b) := by
  unfold q_readThread
  exact cndi (R10 c) (rclears_10 _ _ _ h) (R10.mk h)
theorem readWordLine_10 (h : W 10 = c) : R10 c (q_readWordLine m W p) := by
  unfold q_readWordLine
  repeat' (refine cndi (R10 c) ?_ ?_)
  all_goals first
    | (refine R10.mk ?_; (repeat' (first | refine u10 (by omega) ?_ | exact h)); done)
    | (repeat' (first | exact h | refine u10 (by omega) ?_))
theorem readLockL_10 {l w : Int32} (h : W 10 = c) : ∀ (n : Nat) (is : Int32) (o : Nat), (l_readLock W l w n is o).2 10 = c := by
  intro n
  induction n with
  | zero => intro is o; rw [l_readLock]; exact cndi (fun q : Int32 × (Nat → Int32) => q.2 10 = c) h (u10 (by omega) h)
  | succ n ih => intro is o; rw [l_readLock]; exact cndi (fun q : Int32 × (Nat → Int32) => q.2 10 = c) h (cndi (fun q : Int32 × (Nat → Int32) => q.2 10 = c) (ih _ _) (cndi (fun q : Int32 × (Nat → Int32) => q.2 10 = c) (ih _ _) (ih _ _)))
theorem readLock_10 (h : W 10 = c) : R10 c (q_readLock m W p) := by
  have a : ∀ (l w : Int32) (n : Nat) (is : Int32) (o : Nat), (l_readLock W l w n is o).2 10 = c := fun l w n is o => readLockL_10 h n is o
  unfold q_readLock
  repeat' (refine cndi (R10 c) ?_ ?_)
  all_goals first
    | exact R10.mk h
    | exact R10.mk (a _ _ _ _ _)
theorem readTrustL_10 {v : Int32} : ∀ (n l : Nat) (W : Nat → Int32), W 10 = c → (l_readTrust v n l W).2 10 = c := by
  intro n
  induction n with
  | zero => intro l W h; rw [l_readTrust]; exact cndi (fun q : Int32 × (Nat → Int32) => q.2 10 = c) h h
  | succ n ih => intro l W h; rw [l_readTrust]; exact cndi (fun q : Int32 × (Nat → Int32) => q.2 10 = c) h (ih _ _ (u10 (by omega) h))
theorem readTrust_10 (h : W 10 = c) : R10 c (q_readTrust m W p) := by
  unfold q_readTrust
  exact R10.mk (readTrustL_10 _ _ _ h)
theorem readLine_10 (h : W 10 = c) : R10 c (q_readLine m W p b) := by
  have u8 : ∀ x, R10 c (Int32.ofNat 1, upd W 8 x, p, b) := fun x => R10.mk (u10 (by omega) h)
  have no : ∀ (v : Int32) (p b : Nat), R10 c (v, W, p, b) := fun v p b => R10.mk h
  unfold q_readLine
  refine cnd4 (R10 c) (fun _ => cnd4 (R10 c) (fun _ => cnd4 (R10 c) (fun _ => cnd4 (R10 c) (fun _ => cnd4 (R10 c) (fun _ => ?_) (fun _ => ?_)) (fun _ => ?_)) (fun _ => ?_)) (fun _ => ?_)) (fun _ => ?_)
  · refine cnd4 (R10 c) (fun _ => cnd4 (R10 c) (fun _ => u8 _) (fun _ => u8 _)) (fun _ => cnd4 (R10 c) (fun _ => cnd4 (R10 c) (fun _ => no _ _ _) (fun ht => ?_)) (fun _ => cnd4 (R10 c) (fun _ => u8 _) (fun _ => u8 _)))
    have hT := (termHere_k ht).2
    have r : ∀ lo hi, R10 c (q_readTo m W p (q_termHere m p b).toNatClampNeg lo hi) := fun lo hi => readTo_10 (by omega) h
    exact cnd4 (R10 c) (fun _ => R10.m2 (r _ _)) (fun _ => R10.m2 (r _ _))
  · have r : ∀ lo hi, R10 c (q_readTo m W p 0 lo hi) := fun lo hi => readTo_10 (by omega) h
    exact cnd4 (R10 c) (fun _ => no _ _ _) (fun _ => cnd4 (R10 c) (fun _ => R10.m2 (r _ _)) (fun _ => R10.m2 (r _ _)))
  · exact R10.eta (readTrust_10 h)
  · exact R10.eta (readLock_10 h)
  · exact R10.eta (readWordLine_10 h)
  · exact R10.eta (readThread_10 h)
theorem readTextL_10 : ∀ (n k : Nat) (W : Nat → Int32) (p b : Nat), W 10 = c → R10 c (l_readText m n k W p b) := by
  intro n
  induction n with
  | zero => intro k W p b h; rw [l_readText]; exact R10.mk h
  | succ n ih =>
    intro k W p b h
    have r : R10 c (q_readLine m W (q_letters m p).1 (q_letters m p).2) := readLine_10 h
    rw [l_readText]
    generalize q_readLine m W (q_letters m p).1 (q_letters m p).2 = X at r ⊢
    repeat' (refine cndi (R10 c) ?_ ?_)
    all_goals first
      | exact ih _ _ _ _ r
      | exact R10.m2 r
theorem readText_10 (h : W 10 = c) : R10 c (q_readText m W p) := by
  unfold q_readText
  exact cndi (R10 c) (readTextL_10 _ _ _ _ _ h) (R10.mk h)
end ZR0
end
section
/-! ticks ahead, alike; the tape, the image -/
section ZAH
variable {m M : Nat → Nat → Int32} {t x n : Int32} {W : Nat → Int32}
theorem bnd_D {n0 : Nat} {D : Int32} (h : DU 0 D) (hn : n0 = 400) : bnd n0 D = D := by
  subst hn
  rcases h with h | ⟨i, -, h2, h3⟩
  · rw [h]; exact bnd_m
  · rw [h3]; exact bnd_i h2 (by omega)
theorem cpy_rc (h : RC m 1 W) (hw : WG W) (hx : XI m) (y : Int32) : RC (zm2 (x_copyFrom m 43 1) (43 + 3) 4 y) 43 (upd W 4 y) := (h.copy (b := 43) hw (Or.inr (by omega)) hx.1.1).globS hw.C (by omega) (by omega) (by omega) (cm_3 (k := 4) (by omega))
theorem an_due (h : LR m) (hx : XI m) : CH [0] m (e_due m t) (q_due M (m 138) t) := by
  unfold e_due q_due
  rw [noT h M t]
  cases hs : sOK m t with
  | false => simp only [cnF, zeq1']; exact CH.no h (AN.x 0 rfl rfl)
  | true =>
    obtain ⟨-, ht, ht4⟩ := sOK_n h hs
    simp only [cnT, zeq0]
    have e4 : m (1 + 3) 4 = m 138 4 := h.1.1.globR (by omega) (by omega) (cm_3 (k := 4) (by omega))
    have rc := cpy_rc h.1.1 h.1.2.W hx (m 138 4)
    rw [upd_self] at rc
    have f := taT_ok (t := t.toNatClampNeg) (x := m (1 + 3) 4) (q := Int32.ofNat 400) hx.1.1 hx.1.2 hx.2.1.1 hx.2.1.2 (by decide)
    have e1 : (e_taT m t.toNatClampNeg (m (1 + 3) 4) (Int32.ofNat 400)).1 = (q_dueOf (zrow (zm2 M 137 0 (Int32.ofNat 0)) 140 (crow (m 138) (zm2 M 137 0 (Int32.ofNat 0) 140))) (m 138) t.toNatClampNeg).1 := by
      unfold e_taT
      rw [show zc1 .ge (Int32.ofNat 400) = true from by decide, cnT, e4]
      have r := taT_rx (t := t.toNatClampNeg) (x := m 138 4) (n0 := 400) (by omega) 400 0 0 _ _ (zrow (zm2 M 137 0 (Int32.ofNat 0)) 140 (crow (m 138) (zm2 M 137 0 (Int32.ofNat 0) 140))) (by omega) (by omega) rc (cpy43_c hx.1.1 hx.2.1.1) h.1.2 ht
      exact r.trans (bnd_D (dueT_lo _ _ _ _ (by omega)) rfl)
    have hm : (q_dueOf (zrow (zm2 M 137 0 (Int32.ofNat 0)) 140 (crow (m 138) (zm2 M 137 0 (Int32.ofNat 0) 140))) (m 138) t.toNatClampNeg).2.2 137 0 = Int32.ofNat 0 := dueOf_m0 (t := t.toNatClampNeg) 401 0 (m 138) (zrow (zm2 M 137 0 (Int32.ofNat 0)) 140 (crow (m 138) (zm2 M 137 0 (Int32.ofNat 0) 140))) h.1.2.W h.1.2.2.1
    have hb : ∀ V k, k < 788 → crow ((q_dueOf (zrow (zm2 M 137 0 (Int32.ofNat 0)) 140 (crow (m 138) (zm2 M 137 0 (Int32.ofNat 0) 140))) (m 138) t.toNatClampNeg).2.2 140) V k = m 138 k := fun V => crow_back (dueOf_ok (t := t.toNatClampNeg) 401 0 (m 138) _ h.1.2.W h.1.2.2.1)
    have f3 := f.2.2.1
    generalize q_dueOf (zrow (zm2 M 137 0 (Int32.ofNat 0)) 140 (crow (m 138) (zm2 M 137 0 (Int32.ofNat 0) 140))) (m 138) t.toNatClampNeg = D at e1 hm hb ⊢
    generalize e_taT m t.toNatClampNeg (m (1 + 3) 4) (Int32.ofNat 400) = E at e1 f3 ⊢
    have hb1 := hb D.2.1
    generalize crow (D.2.2 140) D.2.1 = V at hb1 ⊢
    refine ⟨AN.v hm e1, ?_, h.1.2.of hb1, ok.of h.2.2.2.2.2.2.1 (hb1 10 (by omega)), fun i l hi => f3 i l (by omega)⟩
    exact (h.1.1.far (fun i l h1 h2 => f3 i l (by omega))).of h.1.2.W hb1
theorem taX_eq (h : RC m 1 W) (hz : WZ W) (hx : XI m) {b n0 : Nat} (hb : b ≤ 16) (hn : n0 ≤ 400) : (e_taX m (Int32.ofNat b) (Int32.ofNat n0)).1 = bnd n0 (q_dueBy M W b).1 := by
  have rc := cpy_rc h hz.W hx (Int32.ofNat b)
  have z4 : WZ (upd W 4 (Int32.ofNat b)) := hz.term (by omega) (Nat.zero_le _) hb
  unfold e_taX q_dueBy q_dueOfX
  rw [show zc1 .ge (Int32.ofNat n0) = true from by
    refine decide_eq_true ?_
    rw [Int32.le_iff_toInt_le, Int32.toInt_zero, zoN (by omega)]
    omega, cnT, nv_on (by omega)]
  have r := taX_rx (x := Int32.ofNat b) (n0 := n0) hn n0 0 (400 - n0) _ _ (zrow M 140 (crow W (M 140))) (by omega) (by omega) rc (cpy43_c hx.1.1 hx.2.1.1) z4
  rw [show n0 + 1 + (400 - n0) = 401 by omega] at r
  exact r
theorem an_plain (h : LR m) (hx : XI m) : (e_plain m).1 = (q_plain M (m 138)).1 ∧ RC (e_plain m).2 1 (q_plain M (m 138)).2.1 ∧ WZ (q_plain M (m 138)).2.1 ∧ TX (q_plain M (m 138)).2.1 ∧ ∀ i l, i = 0 ∨ (85 ≤ i ∧ i ≠ 131) → (e_plain m).2 i l = m i l := by
  have f := (taX_ok (x := Int32.ofNat 16) (q := Int32.ofNat 400) hx.1.1 hx.1.2 hx.2.1.1 hx.2.1.2 (by decide)).2.2.1
  have hb := dueBy_ok (W := m 138) (m := zm2 M 137 0 (Int32.ofNat 0)) (b := 16) h.1.2.W h.1.2.2.1
  have e1 := taX_eq (M := zm2 M 137 0 (Int32.ofNat 0)) h.1.1 h.1.2 hx (b := 16) (n0 := 400) (by omega) (by omega)
  have dD : DU 0 (q_dueBy (zm2 M 137 0 (Int32.ofNat 0)) (m 138) 16).1 := dueX_lo 401 0 _ _ (by omega)
  unfold e_plain q_plain
  generalize e_taX m (Int32.ofNat 16) (Int32.ofNat 400) = E at f e1 ⊢
  generalize q_dueBy (zm2 M 137 0 (Int32.ofNat 0)) (m 138) 16 = D at hb e1 dD ⊢
  refine ⟨e1.trans (bnd_D dD rfl), ?_, h.1.2.of hb, ok.of h.2.2.2.2.2.2.1 (hb 10 (by omega)), fun i l hi => f i l (by omega)⟩
  exact (h.1.1.far (fun i l h1 h2 => f i l (by omega))).of h.1.2.W hb
noncomputable def QSt (a s b l : Int32) : Prop := (a = -1 ∧ b = -1 ∧ l = -1 ∧ s = Int32.ofNat 401) ∨ ∃ v i, v ≤ 400 ∧ i < 17 ∧ a = Int32.ofNat i ∧ b = a ∧ s = Int32.ofNat v ∧ l = s
theorem quick_rx {f : Int32} (hf : zc1 .eq f = zc1 .ne x) : ∀ (n : Nat) (a s b l : Int32) (k : Nat) (m : Nat → Nat → Int32) (W : Nat → Int32) (M : Nat → Nat → Int32), k + n = 17 → RC m 1 W → WZ W → XI m → QSt a s b l → (xl_quickL f n a s k m).1 = (l_quickest x n b l k W M).1 ∧ RC (xl_quickL f n a s k m).2 1 (l_quickest x n b l k W M).2.1 ∧ (∀ j, j < 788 → (l_quickest x n b l k W M).2.1 j = W j) ∧ (∀ i c, i < 43 ∨ 85 ≤ i → (xl_quickL f n a s k m).2 i c = m i c) ∧ (l_quickest x n b l k W M).2.2 137 0 = M 137 0 := by
  intro n
  induction n with
  | zero =>
    intro a s b l k m W M _ h hz hx hq
    rw [xl_quickL, l_quickest]
    have e : ∀ i, i < 17 → zc2 .ne (Int32.ofNat i) (-1) = true := by decide +kernel
    rcases hq with ⟨q1, q2, q3, q4⟩ | ⟨v, i, q1, q2, q3, q4, q5, q6⟩
    · subst q1; subst q2; subst q3
      rw [show zc2 .ne (-1 : Int32) (-1) = false from by decide, cnF]
      cases zc1 .ne x with
      | true => exact ⟨rfl, h, fun _ _ => rfl, fun _ _ _ => rfl, rfl⟩
      | false => exact ⟨rfl, h, fun _ _ => rfl, fun _ _ _ => rfl, rfl⟩
    · rw [q4, q6, q3, e i q2, cnT, hf]
      cases zc1 .ne x with
      | true => exact ⟨rfl, h, fun _ _ => rfl, fun _ _ _ => rfl, rfl⟩
      | false => exact ⟨rfl, h, fun _ _ => rfl, fun _ _ _ => rfl, rfl⟩
  | succ n ih =>
    intro a s b l k m W M hk h hz hx hq
    have hb := dueBy_ok (W := W) (m := M) (b := k) hz.W hz.2.1
    have hm := dueBy_m0 (W := W) (m := M) (b := k) hz.W hz.2.1
    have dD := dueX_lo 401 0 (upd W 4 (Int32.ofNat k)) (zrow M 140 (crow W (M 140))) (by omega)
    have dD' : DU 0 (q_dueBy M W k).1 := dD
    have hsq : SQ s := by
      rcases hq with ⟨-, -, -, q4⟩ | ⟨v, i, q1, q2, q3, q4, q5, q6⟩
      · exact ⟨401, by omega, q4⟩
      · exact ⟨v, by omega, q5⟩
    have g := taX_ok (x := Int32.ofNat k) hx.1.1 hx.1.2 hx.2.1.1 hx.2.1.2 hsq.le1
    -- the class's answer
    have ec : (e_taX m (Int32.ofNat k) (s - Int32.ofNat 1)).1 = (bif zc2 .lt (q_dueBy M W k).1 s then (q_dueBy M W k).1 else -1) := by
      have key : ∀ v, 1 ≤ v → v ≤ 401 → bnd (v - 1) (q_dueBy M W k).1 = (bif zc2 .lt (q_dueBy M W k).1 (Int32.ofNat v) then (q_dueBy M W k).1 else -1) := by
        intro v h1 h2
        rcases dD' with e | ⟨i, -, i2, i3⟩
        · rw [e, bnd_m]
          cases zc2 .lt (-1) (Int32.ofNat v) <;> rfl
        · rw [i3]
          by_cases hi : i < v
          · rw [bnd_i (by omega) (by omega), zclt (by omega) (by omega) hi, cnT]
          · rw [bnd_o (by omega) i2, zclt_f (by omega) (by omega) (by omega), cnF]
      obtain ⟨v, v1, v2⟩ := hsq
      subst v2
      by_cases hv : v = 0
      · subst hv
        have e0 : e_taX m (Int32.ofNat k) (Int32.ofNat 0 - Int32.ofNat 1) = (-1, m) := by
          unfold e_taX
          rw [show zc1 .ge (Int32.ofNat 0 - Int32.ofNat 1) = false from by decide, cnF]
        rw [e0]
        rcases dD' with e | ⟨i, -, i2, i3⟩
        · rw [e]
          cases zc2 .lt (-1) (Int32.ofNat 0) <;> rfl
        · rw [i3, zclt_f (by omega) (by omega) (Nat.zero_le _), cnF]
      · rw [i_sub (by omega), taX_eq (M := M) h hz hx (by omega) (by omega)]
        exact key v (by omega) v1
    have hx2 := hx.of43 g.1 g.2.1 g.2.2.1
    have h2 : RC (e_taX m (Int32.ofNat k) (s - Int32.ofNat 1)).2 1 (q_dueBy M W k).2.1 := (h.far (fun i l h1 h2 => g.2.2.1 i l (by omega))).of hz.W hb
    have hz2 := hz.of hb
    have fr := g.2.2.1
    rw [xl_quickL, l_quickest, ec]
    generalize (e_taX m (Int32.ofNat k) (s - Int32.ofNat 1)).2 = m2 at hx2 h2 fr ⊢
    generalize q_dueBy M W k = D at hb hm dD' hz2 h2 ⊢
    have fin : ∀ a s b l, QSt a s b l → (xl_quickL f n a s (k + 1) m2).1 = (l_quickest x n b l (k + 1) D.2.1 D.2.2).1 ∧ RC (xl_quickL f n a s (k + 1) m2).2 1 (l_quickest x n b l (k + 1) D.2.1 D.2.2).2.1 ∧ (∀ j, j < 788 → (l_quickest x n b l (k + 1) D.2.1 D.2.2).2.1 j = W j) ∧ (∀ i c, i < 43 ∨ 85 ≤ i → (xl_quickL f n a s (k + 1) m2).2 i c = m i c) ∧ (l_quickest x n b l (k + 1) D.2.1 D.2.2).2.2 137 0 = M 137 0 := by
      intro a s b l hq
      obtain ⟨i1, i2, i3, i4, i5⟩ := ih a s b l (k + 1) m2 D.2.1 D.2.2 (by omega) h2 hz2 hx2 hq
      exact ⟨i1, i2, fun j hj => (i3 j hj).trans (hb j hj), fun i c hi => (i4 i c hi).trans (fr i c (by omega)), i5.trans hm⟩
    rcases hq with ⟨q1, q2, q3, q4⟩ | ⟨v, i, q1, q2, q3, q4, q5, q6⟩
    · subst q1; subst q2; subst q3; subst q4
      rw [show zc2 .eq (-1 : Int32) (-1) = true from by decide, cnT]
      rcases dD' with e | ⟨i, -, i2, i3⟩
      · rw [e, show zc2 .lt (-1 : Int32) (Int32.ofNat 401) = true from by decide, cnT, show zc2 .eq (-1 : Int32) (-1) = true from by decide, cnT, cnT]
        exact fin _ _ _ _ (Or.inl ⟨rfl, rfl, rfl, rfl⟩)
      · have ne : ∀ i, i ≤ 400 → zc2 .eq (Int32.ofNat i) (-1) = false := by decide +kernel
        rw [i3, zclt (by omega) (by omega) (show i < 401 by omega), cnT, ne i i2, cnF, cnF]
        exact fin _ _ _ _ (Or.inr ⟨i, k, i2, by omega, rfl, rfl, rfl, rfl⟩)
    · have ne : ∀ i, i ≤ 400 → zc2 .eq (Int32.ofNat i) (-1) = false := by decide +kernel
      rw [q6, q5, ne v q1, cnF]
      have qq : QSt a (Int32.ofNat v) b (Int32.ofNat v) := Or.inr ⟨v, i, q1, q2, q3, q4, rfl, rfl⟩
      rcases dD' with e | ⟨j, -, j2, j3⟩
      · rw [e, show zc2 .eq (-1 : Int32) (-1) = true from by decide, cnT]
        have e3 : zc2 .eq (bif zc2 .lt (-1 : Int32) (Int32.ofNat v) then (-1 : Int32) else -1) (-1) = true := by cases zc2 .lt (-1 : Int32) (Int32.ofNat v) <;> decide
        rw [e3, cnT]
        exact fin _ _ _ _ qq
      · rw [j3, ne j j2, cnF]
        by_cases hj : j < v
        · rw [zclt (by omega) (by omega) hj, cnT, cnT, ne j j2, cnF]
          exact fin _ _ _ _ (Or.inr ⟨j, k, j2, by omega, rfl, rfl, rfl, rfl⟩)
        · rw [zclt_f (by omega) (by omega) (by omega), cnF, cnF, show zc2 .eq (-1 : Int32) (-1) = true from by decide, cnT]
          exact fin _ _ _ _ qq
theorem an_quickest (h : LR m) (hx : XI m) : CH [1] m (e_quickest m x) (q_quickest M (m 138) x) := by
  unfold e_quickest q_quickest
  rw [in01]
  cases hs : tOK x with
  | false => simp only [cnF]; exact CH.no h (AN.x 0 rfl rfl)
  | true =>
    simp only [cnT]
    have q0 : QSt (-1) (Int32.ofNat 401) (-1) (-1) := Or.inl ⟨rfl, rfl, rfl, rfl⟩
    rcases t01 hs with e | e
    · subst e
      rw [show zc1 .ne (Int32.ofNat (Int32.ofNat 0).toNatClampNeg) = false from by decide, cnF]
      have qr := quick_rx (x := Int32.ofNat 0) (f := Int32.ofNat 1) (by decide) 17 _ _ _ _ 0 m (m 138) (zm2 M 137 0 (Int32.ofNat 0)) (by omega) h.1.1 h.1.2 hx q0
      rw [z_0] at qr
      generalize xl_quickL (Int32.ofNat 1) 17 (-1) (Int32.ofNat 401) 0 m = E at qr ⊢
      generalize l_quickest (Int32.ofNat 0) 17 (-1) (-1) 0 (m 138) (zm2 M 137 0 (Int32.ofNat 0)) = D at qr ⊢
      obtain ⟨a1, a2, a3, a4, a5⟩ := qr
      exact ⟨AN.v a5 a1, a2, h.1.2.of a3, ok.of h.2.2.2.2.2.2.1 (a3 10 (by omega)), fun i l hi => a4 i l (by omega)⟩
    · subst e
      rw [show zc1 .ne (Int32.ofNat (Int32.ofNat 1).toNatClampNeg) = true from by decide, cnT]
      have qr := quick_rx (x := Int32.ofNat 1) (f := Int32.ofNat 0) (by decide) 17 _ _ _ _ 0 m (m 138) (zm2 M 137 0 (Int32.ofNat 0)) (by omega) h.1.1 h.1.2 hx q0
      rw [z_0] at qr
      generalize xl_quickL (Int32.ofNat 0) 17 (-1) (Int32.ofNat 401) 0 m = E at qr ⊢
      generalize l_quickest (Int32.ofNat 1) 17 (-1) (-1) 0 (m 138) (zm2 M 137 0 (Int32.ofNat 0)) = D at qr ⊢
      obtain ⟨a1, a2, a3, a4, a5⟩ := qr
      exact ⟨AN.v a5 a1, a2, h.1.2.of a3, ok.of h.2.2.2.2.2.2.1 (a3 10 (by omega)), fun i l hi => a4 i l (by omega)⟩
end ZAH
end
section
/-! the tape, the image, a text that is told: alike -/
section ZTA
variable {m m' m1 M : Nat → Nat → Int32} {n x : Int32} {W : Nat → Int32} {N : Nat}
theorem LR.tape (h : LR m) (e : ∀ i l, (1 ≤ i ∧ i < 43) ∨ (85 ≤ i ∧ i < 127) ∨ (i = 0 ∧ (l = 3 ∨ l = 6)) ∨ (i = 137 ∧ (l = 4 ∨ l = 11)) ∨ i = 138 ∨ i = 139 → m' i l = m i l) (h5 : m' 0 5 = m' 137 7) (ht : ∀ k, k < mv m' 137 7 → m' 127 k = m' 141 k) : LR m' := by
  have r : ∀ i, i = 138 ∨ i = 139 → m' i = m i := fun i hi => funext (fun l => e i l (by omega))
  obtain ⟨⟨a1, a2⟩, a3, a4, a5, a6, a7, a8, a9⟩ := h
  refine ⟨?_, ?_, ?_, h5, ht, ?_, ?_, ?_⟩
  · rw [r 138 (by omega)]
    exact ⟨a1.far (fun i l h1 h2 => e i l (by omega)), a2⟩
  · rw [r 139 (by omega), e 137 4 (by omega)]
    rcases a3 with a3 | ⟨a3, b3⟩
    · exact Or.inl a3
    · exact Or.inr ⟨a3.far (fun i l h1 h2 => e i l (by omega)), b3⟩
  · rw [e 0 3 (by omega), e 137 4 (by omega)]; exact a4
  · rw [e 0 6 (by omega), e 137 11 (by omega)]; exact a7
  · rw [r 138 (by omega)]; exact a8
  · rw [r 139 (by omega), e 137 4 (by omega)]; exact a9
/-- one byte of a number, the highest first -/
noncomputable def byt (x : Int32) (r : Nat) : Int32 := vp_nar .byte (((x >>> ((Int32.ofNat (24 - 8 * r)) &&& 31))).toInt8.toInt32)
theorem feed1_at {r : Nat} (hr : r < 4) : e_feed1 m x N 127 (N + r) = byt x r := by
  unfold e_feed1
  match r, hr with
  | 0, _ => rw [zx_ne _ _ _ (by decide), zx_nk _ _ (by omega), zx_ne _ _ _ (by decide), zx_nk _ _ (by omega), zx_ne _ _ _ (by decide), zx_nk _ _ (by omega), zx_ne _ _ _ (by decide)]; exact zx_at _ _ _ _
  | 1, _ => rw [zx_ne _ _ _ (by decide), zx_nk _ _ (by omega), zx_ne _ _ _ (by decide), zx_nk _ _ (by omega), zx_ne _ _ _ (by decide)]; exact zx_at _ _ _ _
  | 2, _ => rw [zx_ne _ _ _ (by decide), zx_nk _ _ (by omega), zx_ne _ _ _ (by decide)]; exact zx_at _ _ _ _
  | 3, _ => rw [zx_ne _ _ _ (by decide)]; exact zx_at _ _ _ _
theorem feed1_ne {k : Nat} (h : k < N ∨ N + 4 ≤ k) : e_feed1 m x N 127 k = m 127 k := by
  unfold e_feed1
  rw [zx_ne _ _ _ (by decide), zx_nk _ _ (by omega), zx_ne _ _ _ (by decide), zx_nk _ _ (by omega), zx_ne _ _ _ (by decide), zx_nk _ _ (by omega), zx_ne _ _ _ (by decide), zx_nk _ _ (by omega)]
theorem feedL_b {a b c e f : Int32} {T : Nat} : ∀ (n k : Nat) (m : Nat → Nat → Int32), k + n = 20 → (∀ i, i < T + k → (l_feed a b c e f T n k m).2 141 i = m 141 i) ∧ ∀ j, k ≤ j → j < 20 → (l_feed a b c e f T n k m).2 141 (T + j) = byt (m 142 (j / 4)) (j % 4) := by
  intro n
  induction n with
  | zero =>
    intro k m hk
    refine ⟨fun i hi => ?_, fun j h1 h2 => by omega⟩
    show zm2 m 137 7 (Int32.ofNat (T + 20)) 141 i = m 141 i
    exact zx_ne _ _ _ (by decide)
  | succ n ih =>
    intro k m hk
    obtain ⟨i1, i2⟩ := ih (k + 1) (zm2 m 141 (T + k) (vp_nar .byte ((((m 142 (k / 4)) >>> ((Int32.ofNat (24 - (8 * (k % 4)))) &&& 31))).toInt8.toInt32))) (by omega)
    rw [l_feed]
    refine ⟨fun i hi => (i1 i (by omega)).trans (zx_nk _ _ (by omega)), fun j h1 h2 => ?_⟩
    by_cases e : j = k
    · subst e
      rw [i1 (T + j) (by omega), zx_at]
      rfl
    · rw [i2 j (by omega) h2, zx_ne _ _ _ (by decide)]
theorem feed_lr {a b c e f : Int32} (h : LR m) (hx : XI m) (hN : mv m 0 5 = N) (eM : M = (e_feed m a b c e f N).2) : LR (zrow (q_feed M a b c e f N).2 138 (m 138)) := by
  have h5 := hx.2.2.2.1
  have e5 : m 0 5 = Int32.ofNat N := by
    have q := h5.1
    rw [hN] at q
    exact q
  have n4 : N ≤ 400 := by
    have q := h5.2
    rw [hN] at q
    exact q
  have e7 : m 137 7 = Int32.ofNat N := h.2.2.2.1.symm.trans e5
  have fe : FG m (e_feed m a b c e f N).2 := (feed_x hx n4).2
  have fm : ∀ i l, 137 ≤ i → M i l = m i l := fun i l hi => (congrFun (congrFun eM i) l).trans (fe i l (by omega))
  have fx : ∀ i l, i < 137 → i ≠ 127 → (i ≠ 0 ∨ l ≠ 5) → M i l = m i l := fun i l h1 h2 h3 => (congrFun (congrFun eM i) l).trans (by
    unfold e_feed
    refine cndi (fun q : Int32 × (Nat → Nat → Int32) => q.2 i l = m i l) ?_ rfl
    dsimp only
    rw [feed1_i h2 h3, feed1_i h2 h3, feed1_i h2 h3, feed1_i h2 h3, feed1_i h2 h3])
  have t27 : M 127 = (e_feed m a b c e f N).2 127 := congrFun eM 127
  have u5 : M 0 5 = (e_feed m a b c e f N).2 0 5 := congrFun (congrFun eM 0) 5
  have r7 : (q_feed M a b c e f N).2 137 7 = (bif zc2 .le (Int32.ofNat (N + 20)) (Int32.ofNat 400) then Int32.ofNat (N + 20) else Int32.ofNat N) := by
    unfold q_feed
    cases zc2 .le (Int32.ofNat (N + 20)) (Int32.ofNat 400) with
    | true => rw [cnT, cnT]; exact (feedL_v 20 0 _).2.1
    | false =>
      rw [cnF, cnF]
      show zm2 M 137 0 (Int32.ofNat 0) 137 7 = Int32.ofNat N
      rw [zx_nk _ _ (by decide), fm 137 7 (by omega)]
      exact e7
  have r5 : (e_feed m a b c e f N).2 0 5 = (bif zc2 .le (Int32.ofNat (N + 20)) (Int32.ofNat 400) then Int32.ofNat (N + 20) else Int32.ofNat N) := by
    unfold e_feed
    cases zc2 .le (Int32.ofNat (N + 20)) (Int32.ofNat 400) with
    | true => rw [cnT, cnT]; dsimp only; exact feed1_5
    | false => rw [cnF, cnF]; exact e5
  have fq : ∀ i l, i ≠ 141 → i ≠ 142 → (i ≠ 137 ∨ (l ≠ 0 ∧ l ≠ 7)) → (q_feed M a b c e f N).2 i l = M i l := by
    intro i l h1 h2 h3
    unfold q_feed
    refine cndi (fun q : Int32 × (Nat → Nat → Int32) => q.2 i l = M i l) ?_ (zx_o _ _ (by omega))
    show (l_feed a b c e f N 20 0 (zm2 (zm2 (zm2 (zm2 (zm2 (zm2 M 137 0 (Int32.ofNat 0)) 142 0 a) 142 1 b) 142 2 c) 142 3 e) 142 4 f)).2 i l = M i l
    rw [(feedL_v 20 0 _).1 i l h1 (by omega), zx_ne _ _ _ h2, zx_ne _ _ _ h2, zx_ne _ _ _ h2, zx_ne _ _ _ h2, zx_ne _ _ _ h2, zx_o _ _ (by omega)]
  have zr : ∀ i, i ≠ 138 → zrow (q_feed M a b c e f N).2 138 (m 138) i = (q_feed M a b c e f N).2 i := fun i hi => if_neg hi
  refine h.tape (fun i l hi => ?_) ?_ ?_
  · by_cases q8 : i = 138
    · subst q8; exact congrFun (if_pos rfl) l
    · rw [zr i q8, fq i l (by omega) (by omega) (by omega)]
      by_cases hi2 : 137 ≤ i
      · exact fm i l hi2
      · exact fx i l (by omega) (by omega) (by omega)
  · rw [zr 0 (by omega), zr 137 (by omega), fq 0 5 (by omega) (by omega) (by omega), u5, r5, r7]
  · unfold mv
    rw [zr 127 (by omega), zr 137 (by omega), zr 141 (by omega), r7]
    intro k hk
    rw [fq 127 k (by omega) (by omega) (by omega), t27]
    have old : ∀ j, j < N → m 127 j = m 141 j := fun j hj => h.2.2.2.2.1 j (by unfold mv; rw [e7, nv_on (by omega)]; exact hj)
    unfold e_feed q_feed
    cases hc : zc2 .le (Int32.ofNat (N + 20)) (Int32.ofNat 400) with
    | false =>
      rw [hc, cnF, nv_on (by omega)] at hk
      rw [cnF, cnF]
      show m 127 k = zm2 M 137 0 (Int32.ofNat 0) 141 k
      rw [zx_ne _ _ _ (by decide), fm 141 k (by omega)]
      exact old k hk
    | true =>
      have n20 := tle_t (by omega) (by omega) hc
      rw [hc, cnT, nv_on (by omega)] at hk
      rw [cnT, cnT]
      dsimp only
      obtain ⟨l1, l2⟩ := feedL_b (a := a) (b := b) (c := c) (e := e) (f := f) (T := N) 20 0 (zm2 (zm2 (zm2 (zm2 (zm2 (zm2 M 137 0 (Int32.ofNat 0)) 142 0 a) 142 1 b) 142 2 c) 142 3 e) 142 4 f) rfl
      by_cases hk0 : k < N
      · rw [l1 k (by omega), zx_ne _ _ _ (by decide), zx_ne _ _ _ (by decide), zx_ne _ _ _ (by decide), zx_ne _ _ _ (by decide), zx_ne _ _ _ (by decide), zx_ne _ _ _ (by decide), fm 141 k (by omega), feed1_ne (by omega), feed1_ne (by omega), feed1_ne (by omega), feed1_ne (by omega), feed1_ne (by omega)]
        exact old k hk0
      · obtain ⟨j, rfl⟩ : ∃ j, k = N + j := ⟨k - N, by omega⟩
        rw [l2 j (by omega) (by omega)]
        have q0 : zm2 (zm2 (zm2 (zm2 (zm2 (zm2 M 137 0 (Int32.ofNat 0)) 142 0 a) 142 1 b) 142 2 c) 142 3 e) 142 4 f 142 0 = a := by
          rw [zx_nk _ _ (by decide), zx_nk _ _ (by decide), zx_nk _ _ (by decide), zx_nk _ _ (by decide), zx_at]
        have q1 : zm2 (zm2 (zm2 (zm2 (zm2 (zm2 M 137 0 (Int32.ofNat 0)) 142 0 a) 142 1 b) 142 2 c) 142 3 e) 142 4 f 142 1 = b := by
          rw [zx_nk _ _ (by decide), zx_nk _ _ (by decide), zx_nk _ _ (by decide), zx_at]
        have q2 : zm2 (zm2 (zm2 (zm2 (zm2 (zm2 M 137 0 (Int32.ofNat 0)) 142 0 a) 142 1 b) 142 2 c) 142 3 e) 142 4 f 142 2 = c := by
          rw [zx_nk _ _ (by decide), zx_nk _ _ (by decide), zx_at]
        have q3 : zm2 (zm2 (zm2 (zm2 (zm2 (zm2 M 137 0 (Int32.ofNat 0)) 142 0 a) 142 1 b) 142 2 c) 142 3 e) 142 4 f 142 3 = e := by
          rw [zx_nk _ _ (by decide), zx_at]
        have q4 : zm2 (zm2 (zm2 (zm2 (zm2 (zm2 M 137 0 (Int32.ofNat 0)) 142 0 a) 142 1 b) 142 2 c) 142 3 e) 142 4 f 142 4 = f := zx_at _ _ _ _
        have hr : j % 4 < 4 := Nat.mod_lt _ (by omega)
        have hd : j / 4 = 0 ∨ j / 4 = 1 ∨ j / 4 = 2 ∨ j / 4 = 3 ∨ j / 4 = 4 := by omega
        rcases hd with d | d | d | d | d
        · rw [d, q0, feed1_ne (by omega), feed1_ne (by omega), feed1_ne (by omega), feed1_ne (by omega), show N + j = N + j % 4 by omega]
          exact feed1_at hr
        · rw [d, q1, feed1_ne (by omega), feed1_ne (by omega), feed1_ne (by omega), show N + j = N + 4 + j % 4 by omega]
          exact feed1_at hr
        · rw [d, q2, feed1_ne (by omega), feed1_ne (by omega), show N + j = N + 8 + j % 4 by omega]
          exact feed1_at hr
        · rw [d, q3, feed1_ne (by omega), show N + j = N + 12 + j % 4 by omega]
          exact feed1_at hr
        · rw [d, q4, show N + j = N + 16 + j % 4 by omega]
          exact feed1_at hr
theorem end_lr (h : LR m) (g : ∀ i l, (i ≠ 0 ∨ l ≠ 5) → m1 i l = m i l) (g5 : m1 0 5 = (e_end m n).2 0 5) (n7 : (m 137 7).toInt ≤ 400 ∧ 0 ≤ (m 137 7).toInt) : LR (zrow (q_end m1 n).2 138 (m 138)) := by
  have zr : ∀ i, i ≠ 138 → zrow (q_end m1 n).2 138 (m 138) i = (q_end m1 n).2 i := fun i hi => if_neg hi
  have e7 : m1 137 7 = m 137 7 := g 137 7 (by omega)
  have fq : ∀ i l, (i ≠ 137 ∨ (l ≠ 0 ∧ l ≠ 7)) → (q_end m1 n).2 i l = m1 i l := by
    intro i l h1
    unfold q_end
    exact cndi (fun q : Int32 × (Nat → Nat → Int32) => q.2 i l = m1 i l) (zx_o _ _ (by omega)) (cndi (fun q : Int32 × (Nat → Nat → Int32) => q.2 i l = m1 i l) ((zx_o _ _ (by omega)).trans (zx_o _ _ (by omega))) (zx_o _ _ (by omega)))
  have r7 : (q_end m1 n).2 137 7 = (bif zc1 .lt n then m 137 7 else bif zc2 .le n (m 137 7) then n else m 137 7) := by
    unfold q_end
    rw [zx_nk _ _ (by decide), e7]
    cases zc1 .lt n with
    | true =>
      rw [cnT, cnT]
      show zm2 m1 137 0 (Int32.ofNat 0) 137 7 = m 137 7
      rw [zx_nk _ _ (by decide)]; exact e7
    | false =>
      rw [cnF, cnF]
      cases zc2 .le n (m 137 7) with
      | true =>
        rw [cnT, cnT]
        show zm2 (zm2 m1 137 0 (Int32.ofNat 0)) 137 7 n 137 7 = n
        exact zx_at _ _ _ _
      | false =>
        rw [cnF, cnF]
        show zm2 m1 137 0 (Int32.ofNat 0) 137 7 = m 137 7
        rw [zx_nk _ _ (by decide)]; exact e7
  have r5 : (e_end m n).2 0 5 = (bif zc1 .lt n then m 0 5 else bif zc2 .le n (m 0 5) then n else m 0 5) := by
    unfold e_end
    cases zc1 .lt n with
    | true => rw [cnT, cnT]
    | false =>
      rw [cnF, cnF]
      cases zc2 .le n (m 0 5) with
      | true =>
        rw [cnT, cnT]
        show zm2 m 0 5 n 0 5 = n
        exact zx_at _ _ _ _
      | false => rw [cnF, cnF]
  refine h.tape (fun i l hi => ?_) ?_ ?_
  · by_cases q8 : i = 138
    · subst q8; exact congrFun (if_pos rfl) l
    · rw [zr i q8, fq i l (by omega)]
      exact g i l (by omega)
  · rw [zr 0 (by omega), zr 137 (by omega), fq 0 5 (by omega), g5, r5, r7, h.2.2.2.1]
  · unfold mv
    rw [zr 127 (by omega), zr 137 (by omega), zr 141 (by omega), r7]
    intro k hk
    rw [fq 127 k (by omega), fq 141 k (by omega), g 127 k (by omega), g 141 k (by omega)]
    refine h.2.2.2.2.1 k ?_
    unfold mv
    cases h1 : zc1 .lt n with
    | true => rw [h1, cnT] at hk; exact hk
    | false =>
      cases h2 : zc2 .le n (m 137 7) with
      | false => rw [h1, h2, cnF, cnF] at hk; exact hk
      | true =>
        rw [h1, h2, cnF, cnT] at hk
        have a := of_decide_eq_true h2
        rw [Int32.le_iff_toInt_le] at a
        have b1 : n.toNatClampNeg = n.toInt.toNat := rfl
        have b2 : (m 137 7).toNatClampNeg = (m 137 7).toInt.toNat := rfl
        omega
theorem image_lr (h : LR m) (hx : XI m) (g : ∀ i, M i = (e_image m) i) : LR (zrow (q_image M (m 138)) 138 (m 138)) := by
  have gM : M = e_image m := funext g
  subst gM
  have f : FB (x_copyFrom m 85 1) 85 m := FB.copy (Or.inr (by omega)) hx.1.1 FB.refl
  have e3 : e_image m 0 3 = Int32.ofNat 1 := zx_at _ _ _ _
  have ei : ∀ i l, (i < 85 ∨ 127 ≤ i) → (i ≠ 0 ∨ l ≠ 3) → e_image m i l = m i l := fun i l h1 h2 => (zx_o _ _ (by omega)).trans (f i l (by omega))
  have zr : ∀ i, i ≠ 138 → zrow (q_image (e_image m) (m 138)) 138 (m 138) i = q_image (e_image m) (m 138) i := fun i hi => if_neg hi
  have s8 : zrow (q_image (e_image m) (m 138)) 138 (m 138) 138 = m 138 := if_pos rfl
  have q9 : ∀ k, k < 788 → q_image (e_image m) (m 138) 139 k = m 138 k := fun k hk => crow_of _ _ k hk
  have qi : ∀ i l, i ≠ 139 → (i ≠ 137 ∨ (l ≠ 0 ∧ l ≠ 4)) → q_image (e_image m) (m 138) i l = e_image m i l := by
    intro i l h1 h2
    unfold q_image
    rw [zx_o _ _ (by omega), show zrow (zm2 (e_image m) 137 0 (Int32.ofNat 0)) 139 (crow (m 138) (zm2 (e_image m) 137 0 (Int32.ofNat 0) 139)) i l = zm2 (e_image m) 137 0 (Int32.ofNat 0) i l from congrFun (if_neg h1) l, zx_o _ _ (by omega)]
  have q4 : q_image (e_image m) (m 138) 137 4 = Int32.ofNat 1 := zx_at _ _ _ _
  obtain ⟨⟨a1, a2⟩, a3, a4, a5, a6, a7, a8, a9⟩ := h
  refine ⟨?_, ?_, ?_, ?_, ?_, ?_, ?_, ?_⟩
  · rw [s8]
    refine ⟨a1.far (fun i l h1 h2 => ?_), a2⟩
    rw [zr i (by omega), qi i l (by omega) (by omega)]
    exact ei i l (by omega) (by omega)
  · refine Or.inr ⟨?_, ?_⟩
    · rw [zr 139 (by omega)]
      refine ((a1.copy (b := 85) a2.W (Or.inr (by omega)) hx.1.1).far (fun i l h1 h2 => ?_)).of a2.W q9
      rw [zr i (by omega), qi i l (by omega) (by omega)]
      exact zx_ne _ _ _ (by omega)
    · rw [zr 139 (by omega)]
      exact a2.of q9
  · rw [zr 0 (by omega), zr 137 (by omega), qi 0 3 (by omega) (by omega), e3, q4]
  · rw [zr 0 (by omega), zr 137 (by omega), qi 0 5 (by omega) (by omega), qi 137 7 (by omega) (by omega), ei 0 5 (by omega) (by omega), ei 137 7 (by omega) (by omega)]
    exact a5
  · unfold mv at a6 ⊢
    rw [zr 137 (by omega), zr 127 (by omega), zr 141 (by omega), qi 137 7 (by omega) (by omega), ei 137 7 (by omega) (by omega)]
    intro k hk
    rw [qi 127 k (by omega) (by omega), qi 141 k (by omega) (by omega), ei 127 k (by omega) (by omega), ei 141 k (by omega) (by omega)]
    exact a6 k hk
  · rw [zr 0 (by omega), zr 137 (by omega), qi 0 6 (by omega) (by omega), qi 137 11 (by omega) (by omega), ei 0 6 (by omega) (by omega), ei 137 11 (by omega) (by omega)]
    exact a7
  · rw [s8]; exact a8
  · rw [zr 139 (by omega)]
    exact Or.inr (ok.of a8 (q9 10 (by omega)))
end ZTA
end
section
/-! a text that is told, alike -/
section ZMC
variable {m M : Nat → Nat → Int32} {N b : Nat}
/-- the class behind its reading -/
theorem xM3_e : xM3 m N 0 6 = (yRA (x_copyFrom m 43 1) N).1 ∧ (∀ i l, 43 ≤ i → i < 85 → xM3 m N i l = (yRA (x_copyFrom m 43 1) N).2.1 i l) := by
  refine ⟨?_, fun i l h1 h2 => ?_⟩
  · unfold xM3
    rw [zx_nk _ _ (by decide), zx_at]
    rfl
  · unfold xM3
    rw [zx_ne _ _ _ (by omega), zx_ne _ _ _ (by omega)]
    unfold x_readAll
    show XP (yRA (x_copyFrom m 43 1) N).2.1 (yRA (x_copyFrom m 43 1) N).2.2.1 (yRA (x_copyFrom m 43 1) N).2.2.2 i l = _
    exact congrFun (if_neg (by omega)) l
noncomputable def mcE (P : Nat → Nat → Int32) : (Int32 ⊕ Nat) × (Nat → Nat → Int32) := bif zc2 .eq (P 0 6) (-1) then (bif zc2 .lt (P 1 6) (Int32.ofNat 12) then (.inl (zm2 (zm2 (x_copyFrom P 1 43) 1 6 (x_copyFrom P 1 43 1 6 + Int32.ofNat 1)) 131 8 (Int32.ofNat 0) 1 6), zm2 (zm2 (x_copyFrom P 1 43) 1 6 (x_copyFrom P 1 43 1 6 + Int32.ofNat 1)) 131 8 (Int32.ofNat 0)) else (.inr 3, P)) else (.inr 2, P)
theorem mcE_e : e_machine m N b = mcE (xM3 m N) := rfl
/-- what the two sides have in common behind a reading -/
theorem read_rx (h : LR m) (hx : XI m) (hN : m 0 5 = Int32.ofNat N) (n4 : N ≤ 400) (g7 : M 137 7 = m 137 7) (g141 : M 141 = m 141) : TLA (yRA (x_copyFrom m 43 1) N) (q_readText (mM M (m 138)) (m 138) 0) ∧ (q_readText (mM M (m 138)) (m 138) 0).2.2.2 ≤ 400 ∧ (q_readText (mM M (m 138)) (m 138) 0).2.1 10 = m 138 10 := by
  have e7 : M 137 7 = Int32.ofNat N := g7.trans (h.2.2.2.1.symm.trans hN)
  obtain ⟨g1, g2⟩ := mM_G (W := m 138) e7 n4
  have f : FB (x_copyFrom m 43 1) 43 m := FB.copy (Or.inr (by omega)) hx.1.1 FB.refl
  have pa : PA (x_copyFrom m 43 1 127) N (mM M (m 138)) := by
    refine ⟨g2, n4, fun p hp => ?_⟩
    rw [f 127 p (by omega), h.2.2.2.2.1 p (by unfold mv; rw [← g7, e7, nv_on (by omega)]; exact hp)]
    have e : mM M (m 138) 141 = M 141 := by
      unfold mM
      rw [zrow_ne (by omega), zm2_i _ _ (by omega), zm2_i _ _ (by omega), zm2_i _ _ (by omega), zm2_i _ _ (by omega)]
    rw [e, g141]
  have rc : RC (xR0 (x_copyFrom m 43 1) N) 43 (m 138) := by
    refine (h.1.1.copy (b := 43) h.1.2.W (Or.inr (by omega)) hx.1.1).far (fun i l h1 h2 => ?_)
    unfold xR0
    rw [zx_ne _ _ _ (by omega), zx_ne _ _ _ (by omega)]
  refine ⟨readAll_rx pa g1 ⟨rc, h.1.2⟩, ?_, (readText_10 (m := mM M (m 138)) (p := 0) rfl)⟩
  have rt := (readText_WG (W := m 138) (p := 0) g1 (Nat.zero_le _) h.1.2.W).1
  unfold RB at rt
  rw [g2] at rt
  omega
theorem LR.told {m2 : Nat → Nat → Int32} (h : LR m) (r : RC m2 1 (m2 138)) (z : WZ (m2 138)) (x : TX (m2 138)) (e : ∀ i l, (85 ≤ i ∧ i < 127) ∨ (i = 0 ∧ l = 3) ∨ (i = 137 ∧ l = 4) ∨ i = 139 → m2 i l = m i l) (z5 : m2 0 5 = Int32.ofNat 0) (z7 : m2 137 7 = Int32.ofNat 0) (f6 : m2 0 6 = m2 137 11) : LR m2 := by
  have r9 : m2 139 = m 139 := funext (fun l => e 139 l (by omega))
  obtain ⟨-, a3, a4, -, -, -, -, a9⟩ := h
  refine ⟨⟨r, z⟩, ?_, ?_, z5.trans z7.symm, fun k hk => ?_, f6, x, ?_⟩
  · rw [r9, e 137 4 (by omega)]
    rcases a3 with a3 | ⟨a3, b3⟩
    · exact Or.inl a3
    · exact Or.inr ⟨a3.far (fun i l h1 h2 => e i l (by omega)), b3⟩
  · rw [e 0 3 (by omega), e 137 4 (by omega)]; exact a4
  · unfold mv at hk
    rw [z7] at hk
    exact absurd hk (Nat.not_lt_zero _)
  · rw [r9, e 137 4 (by omega)]; exact a9
/-- the reference's memory as its reading ends -/
noncomputable def RR (M R : Nat → Nat → Int32) (W : Nat → Int32) (c : Nat) : Prop := (∀ i l, i ≠ 137 → i ≠ 140 → R i l = M i l) ∧ R 137 4 = M 137 4 ∧ R 137 7 = Int32.ofNat 0 ∧ R 137 10 = Int32.ofNat c ∧ (∀ k, k < 788 → R 140 k = W k) ∧ R 137 0 = Int32.ofNat 0
theorem RR_of {W : Nat → Int32} {p c : Nat} : RR M (TP (mM M W) p c) W c := by
  refine ⟨fun i l h1 h2 => ?_, rfl, rfl, rfl, fun k hk => ?_, rfl⟩
  · unfold TP
    rw [if_neg h1]
    unfold mM
    rw [zrow_ne h2, zm2_i _ _ h1, zm2_i _ _ h1, zm2_i _ _ h1, zm2_i _ _ h1]
  · show crow W _ k = W k
    exact crow_of _ _ k hk
/-- nothing was told: the old world again -/
theorem told_no (h : LR m) {R V : Nat → Nat → Int32} {W' : Nat → Int32} {y d : Int32} {c : Nat} (rr : RR M R (m 138) c) (eS : V = zm2 (zm2 R 137 11 y) 137 0 d) (e1 : ∀ i l, 1 ≤ i → i < 43 → M i l = m i l) (e2 : ∀ i l, (85 ≤ i ∧ i < 127) ∨ (i = 0 ∧ l = 3) ∨ (i = 137 ∧ l = 4) ∨ i = 139 → M i l = m i l) (m5 : M 0 5 = Int32.ofNat 0) (m6 : M 0 6 = y) : LR (zrow V 138 (crow (V 140) W')) := by
  obtain ⟨q1, q2, q3, q4, q5, -⟩ := rr
  have s8 : zrow V 138 (crow (V 140) W') 138 = crow (V 140) W' := if_pos rfl
  have zr : ∀ i, i ≠ 138 → zrow V 138 (crow (V 140) W') i = V i := fun i hi => if_neg hi
  have v : ∀ i l, i ≠ 137 → V i l = R i l := fun i l hi => by rw [eS, zx_ne _ _ _ hi, zx_ne _ _ _ hi]
  have w : ∀ l, l ≠ 0 → l ≠ 11 → V 137 l = R 137 l := fun l h1 h2 => by rw [eS, zx_nk _ _ h1, zx_nk _ _ h2]
  have cb : ∀ k, k < 788 → crow (V 140) W' k = m 138 k := fun k hk => (crow_of _ _ k hk).trans ((v 140 k (by decide)).trans (q5 k hk))
  refine h.told ?_ ?_ ?_ (fun i l hi => ?_) ?_ ?_ ?_
  · rw [s8]
    refine (h.1.1.far (fun i l h1 h2 => ?_)).of h.1.2.W cb
    rw [zr i (by omega), v i l (by omega), q1 i l (by omega) (by omega)]
    exact e1 i l h1 h2
  · rw [s8]; exact h.1.2.of cb
  · rw [s8]; exact ok.of h.2.2.2.2.2.2.1 (cb 10 (by omega))
  · rw [zr i (by omega), ← e2 i l hi]
    by_cases hi7 : i = 137
    · subst hi7
      have hl : l = 4 := by omega
      subst hl
      rw [w 4 (by omega) (by omega)]
      exact q2
    · rw [v i l hi7]
      exact q1 i l hi7 (by omega)
  · rw [zr 0 (by omega), v 0 5 (by omega), q1 0 5 (by omega) (by omega)]; exact m5
  · rw [zr 137 (by omega), w 7 (by omega) (by omega)]; exact q3
  · rw [zr 0 (by omega), zr 137 (by omega), v 0 6 (by omega), q1 0 6 (by omega) (by omega), m6, eS, zx_nk _ _ (by omega), zx_at]
theorem machine_lr (h : LR m) (hx : XI m) (hN : m 0 5 = Int32.ofNat N) (n4 : N ≤ 400) (eM : M = (e_machine m N b).2) : AN [2, 3] (e_machine m N b).1 ((q_machine M (m 138)).2.2 137 0) (q_machine M (m 138)).1 ∧ LR (zrow (q_machine M (m 138)).2.2 138 (q_machine M (m 138)).2.1) := by
  have mx := machine_x (n := N) (b := b) hx n4
  obtain ⟨p1, p2, p3, p4⟩ := xM3_x hx n4
  obtain ⟨-, -, a3, -⟩ := xM3_ok (n := N) hx.1.1 hx.1.2 hx.2.1.1 hx.2.1.2 n4
  have fM : FG m M := by rw [eM]; exact mx.2.2.1
  have m5 : M 0 5 = Int32.ofNat 0 := by rw [eM]; exact mx.2.2.2
  obtain ⟨rd, rb, r10⟩ := read_rx (M := M) h hx hN n4 (fM 137 7 (by omega)) (funext (fun l => fM 141 l (by omega)))
  obtain ⟨x6, x43⟩ := xM3_e (m := m) (N := N)
  rw [mcE_e] at eM ⊢
  unfold q_machine
  have rr : RR M (TP (mM M (m 138)) (q_readText (mM M (m 138)) (m 138) 0).2.2.1 (q_readText (mM M (m 138)) (m 138) 0).2.2.2) (m 138) (q_readText (mM M (m 138)) (m 138) 0).2.2.2 := RR_of
  generalize TP (mM M (m 138)) (q_readText (mM M (m 138)) (m 138) 0).2.2.1 (q_readText (mM M (m 138)) (m 138) 0).2.2.2 = R at rr ⊢
  generalize q_readText (mM M (m 138)) (m 138) 0 = Y at rd rb r10 rr ⊢
  generalize yRA (x_copyFrom m 43 1) N = X at rd x6 x43
  generalize xM3 m N = P at p1 p2 p3 p4 a3 x6 x43 eM ⊢
  have o10 := h.2.2.2.2.2.2.1
  rcases rd with ⟨t1, t2, t3⟩ | ⟨t1, t2⟩
  · have P6 : P 0 6 = -1 := x6.trans t1
    have P16 : P 1 6 = m 138 10 := (a3 1 6 (by omega) (by omega) (by omega)).trans (h.1.1.globR (k := 10) (o := 0) (s := 6) (by omega) (by omega) rfl)
    have e11 : zc2 .eq (-1 : Int32) (-1) = true := by decide
    unfold mcE at eM ⊢
    unfold q_machine38
    rw [P6, e11, cnT, P16, o10.1] at eM ⊢
    rw [t2, zeq1', cnF, zn1, cnT, r10, o10.1]
    have h12 := o10.2.2
    by_cases q12 : nv (m 138) 10 = 12
    · have z1 : zc2 .lt (Int32.ofNat 12) (Int32.ofNat 12) = false := by decide
      rw [q12, z1, cnF] at eM ⊢
      rw [zne_same, cnF]
      have eM2 : M = P := eM
      refine ⟨AN.x 1 rfl rfl, ?_⟩
      refine told_no (V := (q_thr1 (zm2 R 137 11 (-1)) 2).2) (y := -1) (d := Int32.ofNat 2) h rr rfl (fun i l h1 h2 => ?_) (fun i l hi => ?_) m5 (by rw [eM2]; exact P6)
      · rw [eM2]; exact a3 i l (by omega) (by omega) (by omega)
      · rw [eM2]
        by_cases hi7 : 137 ≤ i
        · exact p2 i l (by omega)
        · exact a3 i l (by omega) (by omega) (by omega)
    · rw [zclt (by omega) (by omega) (show nv (m 138) 10 < 12 by omega), cnT] at eM ⊢
      rw [tne_tt (by omega) (by omega) q12, cnT]
      have eM2 : M = zm2 (zm2 (x_copyFrom P 1 43) 1 6 (x_copyFrom P 1 43 1 6 + Int32.ofNat 1)) 131 8 (Int32.ofNat 0) := eM
      have rP : RC P 43 Y.2.1 := t3.1.far (fun i l h1 h2 => x43 i l h1 (by omega))
      have r1 : RC (x_copyFrom P 1 43) 1 Y.2.1 := rP.copy (b := 1) t3.2.W (Or.inl (by omega)) p3
      have f1 : FB (x_copyFrom P 1 43) 1 P := FB.copy (Or.inl (by omega)) p3 FB.refl
      have c6 : x_copyFrom P 1 43 1 6 = Int32.ofNat (nv (m 138) 10) := (r1.globR (k := 10) (o := 0) (s := 6) (by omega) (by omega) rfl).trans (r10.trans o10.1)
      have r2 : RC (zm2 (x_copyFrom P 1 43) 1 6 (x_copyFrom P 1 43 1 6 + Int32.ofNat 1)) 1 (upd Y.2.1 10 (x_copyFrom P 1 43 1 6 + Int32.ofNat 1)) := r1.globS (k := 10) (o := 0) (s := 6) t3.2.W.C (by omega) (by omega) (by omega) rfl
      rw [c6, i_add] at r2 eM2
      rw [c6, i_add]
      have wz : WZ (upd Y.2.1 10 (Int32.ofNat (nv (m 138) 10 + 1))) := t3.2.gen (by omega) (t3.2.W.put _ (fre_lo (by omega) (by omega))) (by omega) (by omega) (by omega)
      have tx : TX (upd Y.2.1 10 (Int32.ofNat (nv (m 138) 10 + 1))) := ok.is (upd_at _ _ _) (by omega) (by omega) (by omega)
      have Mi : ∀ i l, i = 0 ∨ (43 ≤ i ∧ i ≠ 131) → M i l = P i l := fun i l hi => by
        rw [eM2, zx_ne _ _ _ (by omega), zx_ne _ _ _ (by omega)]
        exact f1 i l (by omega)
      obtain ⟨q1, q2, q3, q4, q5, q6⟩ := rr
      refine ⟨AN.v ?_ ?_, ?_⟩
      · show zm2 R 137 11 (-1) 137 0 = Int32.ofNat 0
        rw [zx_nk _ _ (by decide)]
        exact q6
      · show zm2 (zm2 (x_copyFrom P 1 43) 1 6 (Int32.ofNat (nv (m 138) 10 + 1))) 131 8 (Int32.ofNat 0) 1 6 = upd Y.2.1 10 (Int32.ofNat (nv (m 138) 10 + 1)) 10
        rw [zx_ne _ _ _ (by omega), zx_at, upd_at]
      · show LR (zrow (zm2 R 137 11 (-1)) 138 (upd Y.2.1 10 (Int32.ofNat (nv (m 138) 10 + 1))))
        have s8 : zrow (zm2 R 137 11 (-1)) 138 (upd Y.2.1 10 (Int32.ofNat (nv (m 138) 10 + 1))) 138 = upd Y.2.1 10 (Int32.ofNat (nv (m 138) 10 + 1)) := if_pos rfl
        have zr : ∀ i, i ≠ 138 → zrow (zm2 R 137 11 (-1)) 138 (upd Y.2.1 10 (Int32.ofNat (nv (m 138) 10 + 1))) i = zm2 R 137 11 (-1) i := fun i hi => if_neg hi
        refine h.told ?_ ?_ ?_ (fun i l hi => ?_) ?_ ?_ ?_
        · rw [s8]
          refine r2.far (fun i l h1 h2 => ?_)
          rw [zr i (by omega), zx_ne _ _ _ (by omega), q1 i l (by omega) (by omega), eM2, zx_ne _ _ _ (by omega)]
        · rw [s8]; exact wz
        · rw [s8]; exact tx
        · rw [zr i (by omega), zx_o _ _ (by omega)]
          by_cases hi7 : i = 137
          · subst hi7
            have hl : l = 4 := by omega
            subst hl
            exact q2.trans (fM 137 4 (by omega))
          · rw [q1 i l hi7 (by omega)]
            by_cases hi8 : 137 ≤ i
            · exact fM i l (by omega)
            · rw [Mi i l (by omega)]
              exact a3 i l (by omega) (by omega) (by omega)
        · rw [zr 0 (by omega), zx_ne _ _ _ (by omega), q1 0 5 (by omega) (by omega)]; exact m5
        · rw [zr 137 (by omega), zx_nk _ _ (by omega)]; exact q3
        · rw [zr 0 (by omega), zr 137 (by omega), zx_ne _ _ _ (by omega), q1 0 6 (by omega) (by omega), Mi 0 6 (by omega), P6, zx_at]
  · have P6 : P 0 6 = Int32.ofNat Y.2.2.2 := x6.trans t2
    have ne : ∀ i, i ≤ 400 → zc2 .eq (Int32.ofNat i) (-1) = false := by decide +kernel
    unfold mcE at eM ⊢
    unfold q_machine38
    rw [P6, ne _ rb, cnF] at eM ⊢
    rw [t1, zeq0, cnT, zne0, cnF]
    have eM2 : M = P := eM
    refine ⟨AN.x 0 rfl rfl, ?_⟩
    refine told_no (V := (q_thr1 (zm2 R 137 11 (R 137 10)) 1).2) (y := R 137 10) (d := Int32.ofNat 1) h rr rfl (fun i l h1 h2 => ?_) (fun i l hi => ?_) m5 (by rw [eM2, P6]; exact rr.2.2.2.1.symm)
    · rw [eM2]; exact a3 i l (by omega) (by omega) (by omega)
    · rw [eM2]
      by_cases hi7 : 137 ≤ i
      · exact p2 i l (by omega)
      · exact a3 i l (by omega) (by omega) (by omega)
end ZMC
end
