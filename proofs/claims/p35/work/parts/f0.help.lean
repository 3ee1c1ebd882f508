/-! the law's helpers over the class -/
noncomputable def YG (yy yy' : (Nat → Nat → Int64) × Bool × Nat × Nat) : Prop := yy'.2.2.1 ≤ yy.2.2.1 + 1 ∧ yy'.2.2.2 ≤ yy.2.2.2 + 6
theorem YG.rf {yy : (Nat → Nat → Int64) × Bool × Nat × Nat} : YG yy yy := ⟨Nat.le_succ _, Nat.le_add_right _ _⟩
theorem YG.l {yy : (Nat → Nat → Int64) × Bool × Nat × Nat} {f : Nat → Nat → Int64} : YG yy (f, yy.2) := ⟨Nat.le_succ _, Nat.le_add_right _ _⟩
theorem YG.t {yy : (Nat → Nat → Int64) × Bool × Nat × Nat} : YG yy (yt yy) := ⟨Nat.le_refl _, Nat.le_refl _⟩
theorem zS146 : zS1[146]? = some (14, 1, []) := rfl
theorem zeLS {σ : Nat → Nat × (Nat → Int32)} {d j pc : Nat} {lv : zLv} {r : List Value} {m : Nat → Nat → Int32} {yy : (Nat → Nat → Int64) × Bool × Nat × Nat} {o : zO} {M' : zMem} {x : Int64} (hf : zfe j pc = some (.lastore, 1)) (kk : zEv σ d j (pc + 1) lv r (zS1, m, (zl2 yy.1 146 0 x, yy.2)) o M') : zEv σ d j pc lv (.long x :: .int (Int32.ofNat 0) :: .ref 146 :: r) (zS1, m, yy) o M' := by
  refine zeS hf rfl ?_ kk
  have h1 : zoutB (Int32.ofNat 0) 1 = false := by decide
  have h2 : (Int32.ofNat 0).toNatClampNeg = 0 := by decide
  simp only [zS, zlast, zS146, h1, h2]
  rfl
/-- the mark of a helper, and the value that it lays aside -/
noncomputable def HC (L : List Nat) (Y : Int32 ⊕ Nat) (u : Int32) (yy : (Nat → Nat → Int64) × Bool × Nat × Nat) : Prop := match Y with
  | .inl w => u = Int32.ofNat 0 ∧ yy.1 146 0 = w.toInt64
  | .inr e => ∃ i, L[i]? = some e ∧ u = Int32.ofNat (i + 1)
theorem HC.v {L : List Nat} {w : Int32} {yy : (Nat → Nat → Int64) × Bool × Nat × Nat} : HC L (.inl w) (Int32.ofNat 0) (zl2 yy.1 146 0 w.toInt64, yy.2) := by
  refine ⟨rfl, ?_⟩
  show zl2 yy.1 146 0 w.toInt64 146 0 = w.toInt64
  unfold zl2 vp_updL
  rw [if_pos rfl, if_pos rfl]
theorem HC.x {L : List Nat} {e : Nat} {yy : (Nat → Nat → Int64) × Bool × Nat × Nat} (i : Nat) (h : L[i]? = some e) : HC L (.inr e) (Int32.ofNat (i + 1)) yy := ⟨i, h, rfl⟩
/-- the mark and the value against the reference's -/
noncomputable def HV (u : Int32) (yy : (Nat → Nat → Int64) × Bool × Nat × Nat) (c v : Int32) : Prop := u = c ∧ (u = Int32.ofNat 0 → yy.1 146 0 = v.toInt64)
theorem HC.an {L : List Nat} {Y : Int32 ⊕ Nat} {u c v : Int32} {yy : (Nat → Nat → Int64) × Bool × Nat × Nat} (hL : L.Nodup) (hl : L.length ≤ 2) (h : HC L Y u yy) (a : AN L Y c v) : HV u yy c v := by
  cases Y with
  | inl w =>
    obtain ⟨h1, h2⟩ := h
    obtain ⟨a1, a2⟩ := a
    exact ⟨h1.trans a1.symm, fun _ => by rw [h2, a2]⟩
  | inr e =>
    obtain ⟨i, h1, h2⟩ := h
    obtain ⟨j, a1, a2⟩ := a
    have hi : i < L.length := (List.getElem?_eq_some_iff.mp h1).1
    have eij : i = j := (List.getElem?_inj hi hL).mp (h1.trans a1.symm)
    subst eij
    refine ⟨h2.trans a2.symm, fun z => ?_⟩
    rw [h2] at z
    have q : ∀ i, i < 2 → ¬ Int32.ofNat (i + 1) = Int32.ofNat 0 := by decide
    exact absurd z (q i (by omega))
theorem al_1 {a e : Nat} (h : Al [a] (.inr e) = true) : e = a := by simpa [Al] using h
theorem al_2 {a b e : Nat} (h : Al [a, b] (.inr e) = true) : e = a ∨ e = b := by simpa [Al] using h
section ZHP
variable {σ : Nat → Nat × (Nat → Int32)} {yy : (Nat → Nat → Int64) × Bool × Nat × Nat} {m : Nat → Nat → Int32}
theorem hp_machine (hs : ZS σ) (h : XI m) : ∃ u0 m1 yy1, (XI m1 ∧ FG m m1 ∧ m1 0 5 = Int32.ofNat 0) ∧ YG yy yy1 ∧ (m1 = (e_machine m (mv m 0 5) (mv m 128 4)).2 ∧ HC [2, 3] (e_machine m (mv m 0 5) (mv m 128 4)).1 u0 yy1) ∧ zF σ 11 2000 [.ref 0, .ref 146] (zS1, m, yy) (.inl (some (.int u0))) (zS1, m1, yy1) := by
  have e := ec_machine (σ := σ) (yy := yy) (m := m) (n := mv m 0 5) (b := mv m 128 4) h.1.1 h.1.2 h.2.1.1 h.2.1.2 hs h.2.2.2.1.1 h.2.2.2.1.2 h.2.2.2.2.1.1
  have hx0 := machine_x (n := mv m 0 5) (b := mv m 128 4) h h.2.2.2.1.2
  generalize e_machine m (mv m 0 5) (mv m 128 4) = Y at e hx0 ⊢
  obtain ⟨Y1, m1⟩ := Y
  obtain ⟨xa, xi⟩ := hx0
  replace e : zF σ 9 1604 [.ref 0] (zS1, m, yy) (xo Y1) (zS1, m1, xy yy Y1) := e.up (by omega)
  replace xa : Al [2, 3] Y1 = true := xa
  replace xi : XI m1 ∧ FG m m1 ∧ m1 0 5 = Int32.ofNat 0 := xi
  cases Y1 with
  | inl w0 =>
    refine ⟨Int32.ofNat 0, m1, (zl2 yy.1 146 0 w0.toInt64, yy.2), xi, YG.l, ⟨rfl, HC.v⟩, fun d hd => ?_⟩
    obtain ⟨d, rfl⟩ : ∃ k, d = k + 1 := ⟨d - 1, by omega⟩
    show zEv σ (d + 1) 2000 0 [some (.ref 0), some (.ref 146), none] [] _ _ _
    refine zeP rfl rfl ?_
    refine zeKn (c := 0) rfl rfl rfl ?_
    refine zeP rfl rfl ?_
    refine zeCV rfl rfl rfl rfl zS00 rfl e (by omega) ?_
    dsimp only [Option.toList, List.cons_append, List.nil_append]
    refine zeP rfl rfl ?_
    refine zeLS rfl ?_
    refine zeP rfl rfl ?_
    refine zeKn (c := 0) rfl rfl rfl ?_
    exact zeRe rfl rfl rfl rfl rfl rfl
  | inr e0 =>
    rcases al_2 xa with he | he
    · subst he
      refine ⟨Int32.ofNat 1, m1, yt yy, xi, YG.t, ⟨rfl, HC.x 0 rfl⟩, fun d hd => ?_⟩
      obtain ⟨d, rfl⟩ : ∃ k, d = k + 1 := ⟨d - 1, by omega⟩
      show zEv σ (d + 1) 2000 0 [some (.ref 0), some (.ref 146), none] [] _ _ _
      refine zeP rfl rfl ?_
      refine zeKn (c := 0) rfl rfl rfl ?_
      refine zeP rfl rfl ?_
      exact zeH rfl rfl rfl rfl rfl rfl (e d (by omega)) rfl
    · subst he
      refine ⟨Int32.ofNat 2, m1, yt yy, xi, YG.t, ⟨rfl, HC.x 1 rfl⟩, fun d hd => ?_⟩
      obtain ⟨d, rfl⟩ : ∃ k, d = k + 1 := ⟨d - 1, by omega⟩
      show zEv σ (d + 1) 2000 0 [some (.ref 0), some (.ref 146), none] [] _ _ _
      refine zeP rfl rfl ?_
      refine zeKn (c := 0) rfl rfl rfl ?_
      refine zeP rfl rfl ?_
      exact zeH rfl rfl rfl rfl rfl rfl (e d (by omega)) rfl
theorem hp_thread {t : Int32} {x : Int32} (h : XI m) : ∃ u0 m1 yy1, (XI m1 ∧ FH m m1) ∧ YG yy yy1 ∧ (m1 = m ∧ HC [0, 1] (e_thread m t x) u0 yy1) ∧ zF σ 11 2001 [.ref 0, .int t, .int x, .ref 146] (zS1, m, yy) (.inl (some (.int u0))) (zS1, m1, yy1) := by
  have e := ec_thread (σ := σ) (yy := yy) (m := m) (t := t) (x := x) h.1.1
  have xa : Al [0, 1] (e_thread m t x) = true := al_thread
  have xi : XI m ∧ FH m m := ⟨h, FH.rf⟩
  generalize e_thread m t x = Y1 at e xa ⊢
  cases Y1 with
  | inl w0 =>
    refine ⟨Int32.ofNat 0, m, (zl2 yy.1 146 0 w0.toInt64, yy.2), xi, YG.l, ⟨rfl, HC.v⟩, fun d hd => ?_⟩
    obtain ⟨d, rfl⟩ : ∃ k, d = k + 1 := ⟨d - 1, by omega⟩
    show zEv σ (d + 1) 2001 0 [some (.ref 0), some (.int t), some (.int x), some (.ref 146), none] [] _ _ _
    refine zeP rfl rfl ?_
    refine zeKn (c := 0) rfl rfl rfl ?_
    refine zeP rfl rfl ?_
    refine zeP rfl rfl ?_
    refine zeP rfl rfl ?_
    refine zeCV rfl rfl rfl rfl zS00 rfl e (by omega) ?_
    dsimp only [Option.toList, List.cons_append, List.nil_append]
    refine zeP rfl rfl ?_
    refine zeLS rfl ?_
    refine zeP rfl rfl ?_
    refine zeKn (c := 0) rfl rfl rfl ?_
    exact zeRe rfl rfl rfl rfl rfl rfl
  | inr e0 =>
    rcases al_2 xa with he | he
    · subst he
      refine ⟨Int32.ofNat 1, m, yt yy, xi, YG.t, ⟨rfl, HC.x 0 rfl⟩, fun d hd => ?_⟩
      obtain ⟨d, rfl⟩ : ∃ k, d = k + 1 := ⟨d - 1, by omega⟩
      show zEv σ (d + 1) 2001 0 [some (.ref 0), some (.int t), some (.int x), some (.ref 146), none] [] _ _ _
      refine zeP rfl rfl ?_
      refine zeKn (c := 0) rfl rfl rfl ?_
      refine zeP rfl rfl ?_
      refine zeP rfl rfl ?_
      refine zeP rfl rfl ?_
      exact zeH rfl rfl rfl rfl rfl rfl (e d (by omega)) rfl
    · subst he
      refine ⟨Int32.ofNat 2, m, yt yy, xi, YG.t, ⟨rfl, HC.x 1 rfl⟩, fun d hd => ?_⟩
      obtain ⟨d, rfl⟩ : ∃ k, d = k + 1 := ⟨d - 1, by omega⟩
      show zEv σ (d + 1) 2001 0 [some (.ref 0), some (.int t), some (.int x), some (.ref 146), none] [] _ _ _
      refine zeP rfl rfl ?_
      refine zeKn (c := 0) rfl rfl rfl ?_
      refine zeP rfl rfl ?_
      refine zeP rfl rfl ?_
      refine zeP rfl rfl ?_
      exact zeH rfl rfl rfl rfl rfl rfl (e d (by omega)) rfl
theorem hp_leftOut {t : Int32} {k : Int32} (h : XI m) : ∃ u0 m1 yy1, (XI m1 ∧ FH m m1) ∧ YG yy yy1 ∧ (m1 = m ∧ HC [0] (e_leftOut m t k) u0 yy1) ∧ zF σ 11 2002 [.ref 0, .int t, .int k, .ref 146] (zS1, m, yy) (.inl (some (.int u0))) (zS1, m1, yy1) := by
  have e := ec_leftOut (σ := σ) (yy := yy) (m := m) (t := t) (k := k) h.1.1
  have xa : Al [0] (e_leftOut m t k) = true := al_leftOut
  have xi : XI m ∧ FH m m := ⟨h, FH.rf⟩
  generalize e_leftOut m t k = Y1 at e xa ⊢
  cases Y1 with
  | inl w0 =>
    refine ⟨Int32.ofNat 0, m, (zl2 yy.1 146 0 w0.toInt64, yy.2), xi, YG.l, ⟨rfl, HC.v⟩, fun d hd => ?_⟩
    obtain ⟨d, rfl⟩ : ∃ k, d = k + 1 := ⟨d - 1, by omega⟩
    show zEv σ (d + 1) 2002 0 [some (.ref 0), some (.int t), some (.int k), some (.ref 146), none] [] _ _ _
    refine zeP rfl rfl ?_
    refine zeKn (c := 0) rfl rfl rfl ?_
    refine zeP rfl rfl ?_
    refine zeP rfl rfl ?_
    refine zeP rfl rfl ?_
    refine zeCV rfl rfl rfl rfl zS00 rfl e (by omega) ?_
    dsimp only [Option.toList, List.cons_append, List.nil_append]
    refine zeP rfl rfl ?_
    refine zeLS rfl ?_
    refine zeP rfl rfl ?_
    refine zeKn (c := 0) rfl rfl rfl ?_
    exact zeRe rfl rfl rfl rfl rfl rfl
  | inr e0 =>
    have he : e0 = 0 := al_1 xa
    subst he
    refine ⟨Int32.ofNat 1, m, yt yy, xi, YG.t, ⟨rfl, HC.x 0 rfl⟩, fun d hd => ?_⟩
    obtain ⟨d, rfl⟩ : ∃ k, d = k + 1 := ⟨d - 1, by omega⟩
    show zEv σ (d + 1) 2002 0 [some (.ref 0), some (.int t), some (.int k), some (.ref 146), none] [] _ _ _
    refine zeP rfl rfl ?_
    refine zeKn (c := 0) rfl rfl rfl ?_
    refine zeP rfl rfl ?_
    refine zeP rfl rfl ?_
    refine zeP rfl rfl ?_
    exact zeH rfl rfl rfl rfl rfl rfl (e d (by omega)) rfl
theorem hp_blocks {t : Int32} {x : Int32} (h : XI m) : ∃ u0 m1 yy1, (XI m1 ∧ FH m m1) ∧ YG yy yy1 ∧ (m1 = m ∧ HC [0, 1] (e_blocks m t x) u0 yy1) ∧ zF σ 11 2003 [.ref 0, .int t, .int x, .ref 146] (zS1, m, yy) (.inl (some (.int u0))) (zS1, m1, yy1) := by
  have e := ec_blocks (σ := σ) (yy := yy) (m := m) (t := t) (x := x) h.1.1
  have xa : Al [0, 1] (e_blocks m t x) = true := al_blocks
  have xi : XI m ∧ FH m m := ⟨h, FH.rf⟩
  generalize e_blocks m t x = Y1 at e xa ⊢
  cases Y1 with
  | inl w0 =>
    refine ⟨Int32.ofNat 0, m, (zl2 yy.1 146 0 w0.toInt64, yy.2), xi, YG.l, ⟨rfl, HC.v⟩, fun d hd => ?_⟩
    obtain ⟨d, rfl⟩ : ∃ k, d = k + 1 := ⟨d - 1, by omega⟩
    show zEv σ (d + 1) 2003 0 [some (.ref 0), some (.int t), some (.int x), some (.ref 146), none] [] _ _ _
    refine zeP rfl rfl ?_
    refine zeKn (c := 0) rfl rfl rfl ?_
    refine zeP rfl rfl ?_
    refine zeP rfl rfl ?_
    refine zeP rfl rfl ?_
    refine zeCV rfl rfl rfl rfl zS00 rfl e (by omega) ?_
    dsimp only [Option.toList, List.cons_append, List.nil_append]
    refine zeP rfl rfl ?_
    refine zeLS rfl ?_
    refine zeP rfl rfl ?_
    refine zeKn (c := 0) rfl rfl rfl ?_
    exact zeRe rfl rfl rfl rfl rfl rfl
  | inr e0 =>
    rcases al_2 xa with he | he
    · subst he
      refine ⟨Int32.ofNat 1, m, yt yy, xi, YG.t, ⟨rfl, HC.x 0 rfl⟩, fun d hd => ?_⟩
      obtain ⟨d, rfl⟩ : ∃ k, d = k + 1 := ⟨d - 1, by omega⟩
      show zEv σ (d + 1) 2003 0 [some (.ref 0), some (.int t), some (.int x), some (.ref 146), none] [] _ _ _
      refine zeP rfl rfl ?_
      refine zeKn (c := 0) rfl rfl rfl ?_
      refine zeP rfl rfl ?_
      refine zeP rfl rfl ?_
      refine zeP rfl rfl ?_
      exact zeH rfl rfl rfl rfl rfl rfl (e d (by omega)) rfl
    · subst he
      refine ⟨Int32.ofNat 2, m, yt yy, xi, YG.t, ⟨rfl, HC.x 1 rfl⟩, fun d hd => ?_⟩
      obtain ⟨d, rfl⟩ : ∃ k, d = k + 1 := ⟨d - 1, by omega⟩
      show zEv σ (d + 1) 2003 0 [some (.ref 0), some (.int t), some (.int x), some (.ref 146), none] [] _ _ _
      refine zeP rfl rfl ?_
      refine zeKn (c := 0) rfl rfl rfl ?_
      refine zeP rfl rfl ?_
      refine zeP rfl rfl ?_
      refine zeP rfl rfl ?_
      exact zeH rfl rfl rfl rfl rfl rfl (e d (by omega)) rfl
theorem hp_fell {t : Int32} {x : Int32} (h : XI m) : ∃ u0 m1 yy1, (XI m1 ∧ FH m m1) ∧ YG yy yy1 ∧ (m1 = m ∧ HC [0, 1] (e_fell m t x) u0 yy1) ∧ zF σ 11 2004 [.ref 0, .int t, .int x, .ref 146] (zS1, m, yy) (.inl (some (.int u0))) (zS1, m1, yy1) := by
  have e := ec_fell (σ := σ) (yy := yy) (m := m) (t := t) (x := x) h.1.1
  have xa : Al [0, 1] (e_fell m t x) = true := al_fell
  have xi : XI m ∧ FH m m := ⟨h, FH.rf⟩
  generalize e_fell m t x = Y1 at e xa ⊢
  cases Y1 with
  | inl w0 =>
    refine ⟨Int32.ofNat 0, m, (zl2 yy.1 146 0 w0.toInt64, yy.2), xi, YG.l, ⟨rfl, HC.v⟩, fun d hd => ?_⟩
    obtain ⟨d, rfl⟩ : ∃ k, d = k + 1 := ⟨d - 1, by omega⟩
    show zEv σ (d + 1) 2004 0 [some (.ref 0), some (.int t), some (.int x), some (.ref 146), none] [] _ _ _
    refine zeP rfl rfl ?_
    refine zeKn (c := 0) rfl rfl rfl ?_
    refine zeP rfl rfl ?_
    refine zeP rfl rfl ?_
    refine zeP rfl rfl ?_
    refine zeCV rfl rfl rfl rfl zS00 rfl e (by omega) ?_
    dsimp only [Option.toList, List.cons_append, List.nil_append]
    refine zeP rfl rfl ?_
    refine zeLS rfl ?_
    refine zeP rfl rfl ?_
    refine zeKn (c := 0) rfl rfl rfl ?_
    exact zeRe rfl rfl rfl rfl rfl rfl
  | inr e0 =>
    rcases al_2 xa with he | he
    · subst he
      refine ⟨Int32.ofNat 1, m, yt yy, xi, YG.t, ⟨rfl, HC.x 0 rfl⟩, fun d hd => ?_⟩
      obtain ⟨d, rfl⟩ : ∃ k, d = k + 1 := ⟨d - 1, by omega⟩
      show zEv σ (d + 1) 2004 0 [some (.ref 0), some (.int t), some (.int x), some (.ref 146), none] [] _ _ _
      refine zeP rfl rfl ?_
      refine zeKn (c := 0) rfl rfl rfl ?_
      refine zeP rfl rfl ?_
      refine zeP rfl rfl ?_
      refine zeP rfl rfl ?_
      exact zeH rfl rfl rfl rfl rfl rfl (e d (by omega)) rfl
    · subst he
      refine ⟨Int32.ofNat 2, m, yt yy, xi, YG.t, ⟨rfl, HC.x 1 rfl⟩, fun d hd => ?_⟩
      obtain ⟨d, rfl⟩ : ∃ k, d = k + 1 := ⟨d - 1, by omega⟩
      show zEv σ (d + 1) 2004 0 [some (.ref 0), some (.int t), some (.int x), some (.ref 146), none] [] _ _ _
      refine zeP rfl rfl ?_
      refine zeKn (c := 0) rfl rfl rfl ?_
      refine zeP rfl rfl ?_
      refine zeP rfl rfl ?_
      refine zeP rfl rfl ?_
      exact zeH rfl rfl rfl rfl rfl rfl (e d (by omega)) rfl
theorem hp_word {w : Int32} (h : XI m) : ∃ u0 m1 yy1, (XI m1 ∧ FH m m1) ∧ YG yy yy1 ∧ (m1 = m ∧ HC [0] (e_word m w) u0 yy1) ∧ zF σ 11 2005 [.ref 0, .int w, .ref 146] (zS1, m, yy) (.inl (some (.int u0))) (zS1, m1, yy1) := by
  have e := ec_word (σ := σ) (yy := yy) (m := m) (w := w) 
  have xa : Al [0] (e_word m w) = true := al_word
  have xi : XI m ∧ FH m m := ⟨h, FH.rf⟩
  generalize e_word m w = Y1 at e xa ⊢
  cases Y1 with
  | inl w0 =>
    refine ⟨Int32.ofNat 0, m, (zl2 yy.1 146 0 w0.toInt64, yy.2), xi, YG.l, ⟨rfl, HC.v⟩, fun d hd => ?_⟩
    obtain ⟨d, rfl⟩ : ∃ k, d = k + 1 := ⟨d - 1, by omega⟩
    show zEv σ (d + 1) 2005 0 [some (.ref 0), some (.int w), some (.ref 146), none] [] _ _ _
    refine zeP rfl rfl ?_
    refine zeKn (c := 0) rfl rfl rfl ?_
    refine zeP rfl rfl ?_
    refine zeP rfl rfl ?_
    refine zeCV rfl rfl rfl rfl zS00 rfl e (by omega) ?_
    dsimp only [Option.toList, List.cons_append, List.nil_append]
    refine zeP rfl rfl ?_
    refine zeLS rfl ?_
    refine zeP rfl rfl ?_
    refine zeKn (c := 0) rfl rfl rfl ?_
    exact zeRe rfl rfl rfl rfl rfl rfl
  | inr e0 =>
    have he : e0 = 0 := al_1 xa
    subst he
    refine ⟨Int32.ofNat 1, m, yt yy, xi, YG.t, ⟨rfl, HC.x 0 rfl⟩, fun d hd => ?_⟩
    obtain ⟨d, rfl⟩ : ∃ k, d = k + 1 := ⟨d - 1, by omega⟩
    show zEv σ (d + 1) 2005 0 [some (.ref 0), some (.int w), some (.ref 146), none] [] _ _ _
    refine zeP rfl rfl ?_
    refine zeKn (c := 0) rfl rfl rfl ?_
    refine zeP rfl rfl ?_
    refine zeP rfl rfl ?_
    exact zeH rfl rfl rfl rfl rfl rfl (e d (by omega)) rfl
theorem hp_sees {t : Int32} {w : Int32} (h : XI m) : ∃ u0 m1 yy1, (XI m1 ∧ FH m m1) ∧ YG yy yy1 ∧ (m1 = m ∧ HC [0] (e_sees m t w) u0 yy1) ∧ zF σ 11 2006 [.ref 0, .int t, .int w, .ref 146] (zS1, m, yy) (.inl (some (.int u0))) (zS1, m1, yy1) := by
  have e := ec_sees (σ := σ) (yy := yy) (m := m) (t := t) (w := w) h.1.1
  have xa : Al [0] (e_sees m t w) = true := al_sees
  have xi : XI m ∧ FH m m := ⟨h, FH.rf⟩
  generalize e_sees m t w = Y1 at e xa ⊢
  cases Y1 with
  | inl w0 =>
    refine ⟨Int32.ofNat 0, m, (zl2 yy.1 146 0 w0.toInt64, yy.2), xi, YG.l, ⟨rfl, HC.v⟩, fun d hd => ?_⟩
    obtain ⟨d, rfl⟩ : ∃ k, d = k + 1 := ⟨d - 1, by omega⟩
    show zEv σ (d + 1) 2006 0 [some (.ref 0), some (.int t), some (.int w), some (.ref 146), none] [] _ _ _
    refine zeP rfl rfl ?_
    refine zeKn (c := 0) rfl rfl rfl ?_
    refine zeP rfl rfl ?_
    refine zeP rfl rfl ?_
    refine zeP rfl rfl ?_
    refine zeCV rfl rfl rfl rfl zS00 rfl e (by omega) ?_
    dsimp only [Option.toList, List.cons_append, List.nil_append]
    refine zeP rfl rfl ?_
    refine zeLS rfl ?_
    refine zeP rfl rfl ?_
    refine zeKn (c := 0) rfl rfl rfl ?_
    exact zeRe rfl rfl rfl rfl rfl rfl
  | inr e0 =>
    have he : e0 = 0 := al_1 xa
    subst he
    refine ⟨Int32.ofNat 1, m, yt yy, xi, YG.t, ⟨rfl, HC.x 0 rfl⟩, fun d hd => ?_⟩
    obtain ⟨d, rfl⟩ : ∃ k, d = k + 1 := ⟨d - 1, by omega⟩
    show zEv σ (d + 1) 2006 0 [some (.ref 0), some (.int t), some (.int w), some (.ref 146), none] [] _ _ _
    refine zeP rfl rfl ?_
    refine zeKn (c := 0) rfl rfl rfl ?_
    refine zeP rfl rfl ?_
    refine zeP rfl rfl ?_
    refine zeP rfl rfl ?_
    exact zeH rfl rfl rfl rfl rfl rfl (e d (by omega)) rfl
theorem hp_lock {l : Int32} {x : Int32} (h : XI m) : ∃ u0 m1 yy1, (XI m1 ∧ FH m m1) ∧ YG yy yy1 ∧ (m1 = m ∧ HC [0, 1] (e_lock m l x) u0 yy1) ∧ zF σ 11 2007 [.ref 0, .int l, .int x, .ref 146] (zS1, m, yy) (.inl (some (.int u0))) (zS1, m1, yy1) := by
  have e := ec_lock (σ := σ) (yy := yy) (m := m) (l := l) (x := x) h.1.1
  have xa : Al [0, 1] (e_lock m l x) = true := al_lock
  have xi : XI m ∧ FH m m := ⟨h, FH.rf⟩
  generalize e_lock m l x = Y1 at e xa ⊢
  cases Y1 with
  | inl w0 =>
    refine ⟨Int32.ofNat 0, m, (zl2 yy.1 146 0 w0.toInt64, yy.2), xi, YG.l, ⟨rfl, HC.v⟩, fun d hd => ?_⟩
    obtain ⟨d, rfl⟩ : ∃ k, d = k + 1 := ⟨d - 1, by omega⟩
    show zEv σ (d + 1) 2007 0 [some (.ref 0), some (.int l), some (.int x), some (.ref 146), none] [] _ _ _
    refine zeP rfl rfl ?_
    refine zeKn (c := 0) rfl rfl rfl ?_
    refine zeP rfl rfl ?_
    refine zeP rfl rfl ?_
    refine zeP rfl rfl ?_
    refine zeCV rfl rfl rfl rfl zS00 rfl e (by omega) ?_
    dsimp only [Option.toList, List.cons_append, List.nil_append]
    refine zeP rfl rfl ?_
    refine zeLS rfl ?_
    refine zeP rfl rfl ?_
    refine zeKn (c := 0) rfl rfl rfl ?_
    exact zeRe rfl rfl rfl rfl rfl rfl
  | inr e0 =>
    rcases al_2 xa with he | he
    · subst he
      refine ⟨Int32.ofNat 1, m, yt yy, xi, YG.t, ⟨rfl, HC.x 0 rfl⟩, fun d hd => ?_⟩
      obtain ⟨d, rfl⟩ : ∃ k, d = k + 1 := ⟨d - 1, by omega⟩
      show zEv σ (d + 1) 2007 0 [some (.ref 0), some (.int l), some (.int x), some (.ref 146), none] [] _ _ _
      refine zeP rfl rfl ?_
      refine zeKn (c := 0) rfl rfl rfl ?_
      refine zeP rfl rfl ?_
      refine zeP rfl rfl ?_
      refine zeP rfl rfl ?_
      exact zeH rfl rfl rfl rfl rfl rfl (e d (by omega)) rfl
    · subst he
      refine ⟨Int32.ofNat 2, m, yt yy, xi, YG.t, ⟨rfl, HC.x 1 rfl⟩, fun d hd => ?_⟩
      obtain ⟨d, rfl⟩ : ∃ k, d = k + 1 := ⟨d - 1, by omega⟩
      show zEv σ (d + 1) 2007 0 [some (.ref 0), some (.int l), some (.int x), some (.ref 146), none] [] _ _ _
      refine zeP rfl rfl ?_
      refine zeKn (c := 0) rfl rfl rfl ?_
      refine zeP rfl rfl ?_
      refine zeP rfl rfl ?_
      refine zeP rfl rfl ?_
      exact zeH rfl rfl rfl rfl rfl rfl (e d (by omega)) rfl
theorem hp_term {x : Int32} (h : XI m) : ∃ u0 m1 yy1, (XI m1 ∧ FH m m1) ∧ YG yy yy1 ∧ (m1 = m ∧ HC [1] (e_term m x) u0 yy1) ∧ zF σ 11 2008 [.ref 0, .int x, .ref 146] (zS1, m, yy) (.inl (some (.int u0))) (zS1, m1, yy1) := by
  have e := ec_term (σ := σ) (yy := yy) (m := m) (x := x) 
  have xa : Al [1] (e_term m x) = true := al_term
  have xi : XI m ∧ FH m m := ⟨h, FH.rf⟩
  generalize e_term m x = Y1 at e xa ⊢
  cases Y1 with
  | inl w0 =>
    refine ⟨Int32.ofNat 0, m, (zl2 yy.1 146 0 w0.toInt64, yy.2), xi, YG.l, ⟨rfl, HC.v⟩, fun d hd => ?_⟩
    obtain ⟨d, rfl⟩ : ∃ k, d = k + 1 := ⟨d - 1, by omega⟩
    show zEv σ (d + 1) 2008 0 [some (.ref 0), some (.int x), some (.ref 146), none] [] _ _ _
    refine zeP rfl rfl ?_
    refine zeKn (c := 0) rfl rfl rfl ?_
    refine zeP rfl rfl ?_
    refine zeP rfl rfl ?_
    refine zeCV rfl rfl rfl rfl zS00 rfl e (by omega) ?_
    dsimp only [Option.toList, List.cons_append, List.nil_append]
    refine zeP rfl rfl ?_
    refine zeLS rfl ?_
    refine zeP rfl rfl ?_
    refine zeKn (c := 0) rfl rfl rfl ?_
    exact zeRe rfl rfl rfl rfl rfl rfl
  | inr e0 =>
    have he : e0 = 1 := al_1 xa
    subst he
    refine ⟨Int32.ofNat 1, m, yt yy, xi, YG.t, ⟨rfl, HC.x 0 rfl⟩, fun d hd => ?_⟩
    obtain ⟨d, rfl⟩ : ∃ k, d = k + 1 := ⟨d - 1, by omega⟩
    show zEv σ (d + 1) 2008 0 [some (.ref 0), some (.int x), some (.ref 146), none] [] _ _ _
    refine zeP rfl rfl ?_
    refine zeKn (c := 0) rfl rfl rfl ?_
    refine zeP rfl rfl ?_
    refine zeP rfl rfl ?_
    exact zeH rfl rfl rfl rfl rfl rfl (e d (by omega)) rfl
theorem hp_deed {t : Int32} {k : Int32} {x : Int32} (h : XI m) : ∃ u0 m1 yy1, (XI m1 ∧ FH m m1) ∧ YG yy yy1 ∧ (m1 = m ∧ HC [0, 1] (e_deed m t k x) u0 yy1) ∧ zF σ 11 2009 [.ref 0, .int t, .int k, .int x, .ref 146] (zS1, m, yy) (.inl (some (.int u0))) (zS1, m1, yy1) := by
  have e := ec_deed (σ := σ) (yy := yy) (m := m) (t := t) (k := k) (x := x) h.1.1 h.1.2
  have xa : Al [0, 1] (e_deed m t k x) = true := al_deed
  have xi : XI m ∧ FH m m := ⟨h, FH.rf⟩
  generalize e_deed m t k x = Y1 at e xa ⊢
  cases Y1 with
  | inl w0 =>
    refine ⟨Int32.ofNat 0, m, (zl2 yy.1 146 0 w0.toInt64, yy.2), xi, YG.l, ⟨rfl, HC.v⟩, fun d hd => ?_⟩
    obtain ⟨d, rfl⟩ : ∃ k, d = k + 1 := ⟨d - 1, by omega⟩
    show zEv σ (d + 1) 2009 0 [some (.ref 0), some (.int t), some (.int k), some (.int x), some (.ref 146), none] [] _ _ _
    refine zeP rfl rfl ?_
    refine zeKn (c := 0) rfl rfl rfl ?_
    refine zeP rfl rfl ?_
    refine zeP rfl rfl ?_
    refine zeP rfl rfl ?_
    refine zeP rfl rfl ?_
    refine zeCV rfl rfl rfl rfl zS00 rfl e (by omega) ?_
    dsimp only [Option.toList, List.cons_append, List.nil_append]
    refine zeP rfl rfl ?_
    refine zeLS rfl ?_
    refine zeP rfl rfl ?_
    refine zeKn (c := 0) rfl rfl rfl ?_
    exact zeRe rfl rfl rfl rfl rfl rfl
  | inr e0 =>
    rcases al_2 xa with he | he
    · subst he
      refine ⟨Int32.ofNat 1, m, yt yy, xi, YG.t, ⟨rfl, HC.x 0 rfl⟩, fun d hd => ?_⟩
      obtain ⟨d, rfl⟩ : ∃ k, d = k + 1 := ⟨d - 1, by omega⟩
      show zEv σ (d + 1) 2009 0 [some (.ref 0), some (.int t), some (.int k), some (.int x), some (.ref 146), none] [] _ _ _
      refine zeP rfl rfl ?_
      refine zeKn (c := 0) rfl rfl rfl ?_
      refine zeP rfl rfl ?_
      refine zeP rfl rfl ?_
      refine zeP rfl rfl ?_
      refine zeP rfl rfl ?_
      exact zeH rfl rfl rfl rfl rfl rfl (e d (by omega)) rfl
    · subst he
      refine ⟨Int32.ofNat 2, m, yt yy, xi, YG.t, ⟨rfl, HC.x 1 rfl⟩, fun d hd => ?_⟩
      obtain ⟨d, rfl⟩ : ∃ k, d = k + 1 := ⟨d - 1, by omega⟩
      show zEv σ (d + 1) 2009 0 [some (.ref 0), some (.int t), some (.int k), some (.int x), some (.ref 146), none] [] _ _ _
      refine zeP rfl rfl ?_
      refine zeKn (c := 0) rfl rfl rfl ?_
      refine zeP rfl rfl ?_
      refine zeP rfl rfl ?_
      refine zeP rfl rfl ?_
      refine zeP rfl rfl ?_
      exact zeH rfl rfl rfl rfl rfl rfl (e d (by omega)) rfl
theorem hp_step {t : Int32} (h : XI m) : ∃ u0 m1 yy1, (XI m1 ∧ FH m m1) ∧ YG yy yy1 ∧ (m1 = (e_step m t).2 ∧ HC [0, 4] (e_step m t).1 u0 yy1) ∧ zF σ 11 2010 [.ref 0, .int t, .ref 146] (zS1, m, yy) (.inl (some (.int u0))) (zS1, m1, yy1) := by
  have e := ec_step (σ := σ) (yy := yy) (m := m) (t := t) h.1.1 h.1.2
  have hx0 := step_x (t := t) h
  generalize e_step m t = Y at e hx0 ⊢
  obtain ⟨Y1, m1⟩ := Y
  obtain ⟨xa, xi⟩ := hx0
  replace e : zF σ 9 1615 [.ref 0, .int t] (zS1, m, yy) (xo Y1) (zS1, m1, xy yy Y1) := e.up (by omega)
  replace xa : Al [0, 4] Y1 = true := xa
  replace xi : XI m1 ∧ FH m m1 := xi
  cases Y1 with
  | inl w0 =>
    refine ⟨Int32.ofNat 0, m1, (zl2 yy.1 146 0 w0.toInt64, yy.2), xi, YG.l, ⟨rfl, HC.v⟩, fun d hd => ?_⟩
    obtain ⟨d, rfl⟩ : ∃ k, d = k + 1 := ⟨d - 1, by omega⟩
    show zEv σ (d + 1) 2010 0 [some (.ref 0), some (.int t), some (.ref 146), none] [] _ _ _
    refine zeP rfl rfl ?_
    refine zeKn (c := 0) rfl rfl rfl ?_
    refine zeP rfl rfl ?_
    refine zeP rfl rfl ?_
    refine zeCV rfl rfl rfl rfl zS00 rfl e (by omega) ?_
    dsimp only [Option.toList, List.cons_append, List.nil_append]
    refine zeP rfl rfl ?_
    refine zeLS rfl ?_
    refine zeP rfl rfl ?_
    refine zeKn (c := 0) rfl rfl rfl ?_
    exact zeRe rfl rfl rfl rfl rfl rfl
  | inr e0 =>
    rcases al_2 xa with he | he
    · subst he
      refine ⟨Int32.ofNat 1, m1, yt yy, xi, YG.t, ⟨rfl, HC.x 0 rfl⟩, fun d hd => ?_⟩
      obtain ⟨d, rfl⟩ : ∃ k, d = k + 1 := ⟨d - 1, by omega⟩
      show zEv σ (d + 1) 2010 0 [some (.ref 0), some (.int t), some (.ref 146), none] [] _ _ _
      refine zeP rfl rfl ?_
      refine zeKn (c := 0) rfl rfl rfl ?_
      refine zeP rfl rfl ?_
      refine zeP rfl rfl ?_
      exact zeH rfl rfl rfl rfl rfl rfl (e d (by omega)) rfl
    · subst he
      refine ⟨Int32.ofNat 2, m1, yt yy, xi, YG.t, ⟨rfl, HC.x 1 rfl⟩, fun d hd => ?_⟩
      obtain ⟨d, rfl⟩ : ∃ k, d = k + 1 := ⟨d - 1, by omega⟩
      show zEv σ (d + 1) 2010 0 [some (.ref 0), some (.int t), some (.ref 146), none] [] _ _ _
      refine zeP rfl rfl ?_
      refine zeKn (c := 0) rfl rfl rfl ?_
      refine zeP rfl rfl ?_
      refine zeP rfl rfl ?_
      exact zeH rfl rfl rfl rfl rfl rfl (e d (by omega)) rfl
theorem hp_run {n : Int32} (h : XI m) : ∃ u0 m1 yy1, (XI m1 ∧ FH m m1) ∧ YG yy yy1 ∧ (m1 = (e_run m n).2 ∧ HC [2] (e_run m n).1 u0 yy1) ∧ zF σ 11 2011 [.ref 0, .int n, .ref 146] (zS1, m, yy) (.inl (some (.int u0))) (zS1, m1, yy1) := by
  have e := ec_run (σ := σ) (yy := yy) (m := m) (n := n) h.1.1 h.1.2
  have hx0 := run_x (n := n) h
  generalize e_run m n = Y at e hx0 ⊢
  obtain ⟨Y1, m1⟩ := Y
  obtain ⟨xa, xi⟩ := hx0
  replace e : zF σ 9 1616 [.ref 0, .int n] (zS1, m, yy) (xo Y1) (zS1, m1, xy yy Y1) := e.up (by omega)
  replace xa : Al [2] Y1 = true := xa
  replace xi : XI m1 ∧ FH m m1 := xi
  cases Y1 with
  | inl w0 =>
    refine ⟨Int32.ofNat 0, m1, (zl2 yy.1 146 0 w0.toInt64, yy.2), xi, YG.l, ⟨rfl, HC.v⟩, fun d hd => ?_⟩
    obtain ⟨d, rfl⟩ : ∃ k, d = k + 1 := ⟨d - 1, by omega⟩
    show zEv σ (d + 1) 2011 0 [some (.ref 0), some (.int n), some (.ref 146), none] [] _ _ _
    refine zeP rfl rfl ?_
    refine zeKn (c := 0) rfl rfl rfl ?_
    refine zeP rfl rfl ?_
    refine zeP rfl rfl ?_
    refine zeCV rfl rfl rfl rfl zS00 rfl e (by omega) ?_
    dsimp only [Option.toList, List.cons_append, List.nil_append]
    refine zeP rfl rfl ?_
    refine zeLS rfl ?_
    refine zeP rfl rfl ?_
    refine zeKn (c := 0) rfl rfl rfl ?_
    exact zeRe rfl rfl rfl rfl rfl rfl
  | inr e0 =>
    have he : e0 = 2 := al_1 xa
    subst he
    refine ⟨Int32.ofNat 1, m1, yt yy, xi, YG.t, ⟨rfl, HC.x 0 rfl⟩, fun d hd => ?_⟩
    obtain ⟨d, rfl⟩ : ∃ k, d = k + 1 := ⟨d - 1, by omega⟩
    show zEv σ (d + 1) 2011 0 [some (.ref 0), some (.int n), some (.ref 146), none] [] _ _ _
    refine zeP rfl rfl ?_
    refine zeKn (c := 0) rfl rfl rfl ?_
    refine zeP rfl rfl ?_
    refine zeP rfl rfl ?_
    exact zeH rfl rfl rfl rfl rfl rfl (e d (by omega)) rfl
theorem hp_chance {n : Int32} (h : XI m) : ∃ u0 m1 yy1, (XI m1 ∧ FH m m1) ∧ YG yy yy1 ∧ (m1 = (e_chance m n).2 ∧ HC [2] (e_chance m n).1 u0 yy1) ∧ zF σ 11 2012 [.ref 0, .int n, .ref 146] (zS1, m, yy) (.inl (some (.int u0))) (zS1, m1, yy1) := by
  have e := ec_chance (σ := σ) (yy := yy) (m := m) (n := n) h.1.1 h.1.2
  have hx0 := chance_x (n := n) h
  generalize e_chance m n = Y at e hx0 ⊢
  obtain ⟨Y1, m1⟩ := Y
  obtain ⟨xa, xi⟩ := hx0
  replace e : zF σ 9 1617 [.ref 0, .int n] (zS1, m, yy) (xo Y1) (zS1, m1, xy yy Y1) := e.up (by omega)
  replace xa : Al [2] Y1 = true := xa
  replace xi : XI m1 ∧ FH m m1 := xi
  cases Y1 with
  | inl w0 =>
    refine ⟨Int32.ofNat 0, m1, (zl2 yy.1 146 0 w0.toInt64, yy.2), xi, YG.l, ⟨rfl, HC.v⟩, fun d hd => ?_⟩
    obtain ⟨d, rfl⟩ : ∃ k, d = k + 1 := ⟨d - 1, by omega⟩
    show zEv σ (d + 1) 2012 0 [some (.ref 0), some (.int n), some (.ref 146), none] [] _ _ _
    refine zeP rfl rfl ?_
    refine zeKn (c := 0) rfl rfl rfl ?_
    refine zeP rfl rfl ?_
    refine zeP rfl rfl ?_
    refine zeCV rfl rfl rfl rfl zS00 rfl e (by omega) ?_
    dsimp only [Option.toList, List.cons_append, List.nil_append]
    refine zeP rfl rfl ?_
    refine zeLS rfl ?_
    refine zeP rfl rfl ?_
    refine zeKn (c := 0) rfl rfl rfl ?_
    exact zeRe rfl rfl rfl rfl rfl rfl
  | inr e0 =>
    have he : e0 = 2 := al_1 xa
    subst he
    refine ⟨Int32.ofNat 1, m1, yt yy, xi, YG.t, ⟨rfl, HC.x 0 rfl⟩, fun d hd => ?_⟩
    obtain ⟨d, rfl⟩ : ∃ k, d = k + 1 := ⟨d - 1, by omega⟩
    show zEv σ (d + 1) 2012 0 [some (.ref 0), some (.int n), some (.ref 146), none] [] _ _ _
    refine zeP rfl rfl ?_
    refine zeKn (c := 0) rfl rfl rfl ?_
    refine zeP rfl rfl ?_
    refine zeP rfl rfl ?_
    exact zeH rfl rfl rfl rfl rfl rfl (e d (by omega)) rfl
theorem hp_poke {w : Int32} {v : Int32} (h : XI m) : ∃ u0 m1 yy1, (XI m1 ∧ FH m m1) ∧ YG yy yy1 ∧ (m1 = (e_poke m w v).2 ∧ HC [0, 2] (e_poke m w v).1 u0 yy1) ∧ zF σ 11 2013 [.ref 0, .int w, .int v, .ref 146] (zS1, m, yy) (.inl (some (.int u0))) (zS1, m1, yy1) := by
  have e := ec_poke (σ := σ) (yy := yy) (m := m) (w := w) (v := v) h.1.1
  have hx0 := poke_x (w := w) (v := v) h
  generalize e_poke m w v = Y at e hx0 ⊢
  obtain ⟨Y1, m1⟩ := Y
  obtain ⟨xa, xi⟩ := hx0
  replace e : zF σ 9 1619 [.ref 0, .int w, .int v] (zS1, m, yy) (xo Y1) (zS1, m1, xy yy Y1) := e.up (by omega)
  replace xa : Al [0, 2] Y1 = true := xa
  replace xi : XI m1 ∧ FH m m1 := xi
  cases Y1 with
  | inl w0 =>
    refine ⟨Int32.ofNat 0, m1, (zl2 yy.1 146 0 w0.toInt64, yy.2), xi, YG.l, ⟨rfl, HC.v⟩, fun d hd => ?_⟩
    obtain ⟨d, rfl⟩ : ∃ k, d = k + 1 := ⟨d - 1, by omega⟩
    show zEv σ (d + 1) 2013 0 [some (.ref 0), some (.int w), some (.int v), some (.ref 146), none] [] _ _ _
    refine zeP rfl rfl ?_
    refine zeKn (c := 0) rfl rfl rfl ?_
    refine zeP rfl rfl ?_
    refine zeP rfl rfl ?_
    refine zeP rfl rfl ?_
    refine zeCV rfl rfl rfl rfl zS00 rfl e (by omega) ?_
    dsimp only [Option.toList, List.cons_append, List.nil_append]
    refine zeP rfl rfl ?_
    refine zeLS rfl ?_
    refine zeP rfl rfl ?_
    refine zeKn (c := 0) rfl rfl rfl ?_
    exact zeRe rfl rfl rfl rfl rfl rfl
  | inr e0 =>
    rcases al_2 xa with he | he
    · subst he
      refine ⟨Int32.ofNat 1, m1, yt yy, xi, YG.t, ⟨rfl, HC.x 0 rfl⟩, fun d hd => ?_⟩
      obtain ⟨d, rfl⟩ : ∃ k, d = k + 1 := ⟨d - 1, by omega⟩
      show zEv σ (d + 1) 2013 0 [some (.ref 0), some (.int w), some (.int v), some (.ref 146), none] [] _ _ _
      refine zeP rfl rfl ?_
      refine zeKn (c := 0) rfl rfl rfl ?_
      refine zeP rfl rfl ?_
      refine zeP rfl rfl ?_
      refine zeP rfl rfl ?_
      exact zeH rfl rfl rfl rfl rfl rfl (e d (by omega)) rfl
    · subst he
      refine ⟨Int32.ofNat 2, m1, yt yy, xi, YG.t, ⟨rfl, HC.x 1 rfl⟩, fun d hd => ?_⟩
      obtain ⟨d, rfl⟩ : ∃ k, d = k + 1 := ⟨d - 1, by omega⟩
      show zEv σ (d + 1) 2013 0 [some (.ref 0), some (.int w), some (.int v), some (.ref 146), none] [] _ _ _
      refine zeP rfl rfl ?_
      refine zeKn (c := 0) rfl rfl rfl ?_
      refine zeP rfl rfl ?_
      refine zeP rfl rfl ?_
      refine zeP rfl rfl ?_
      exact zeH rfl rfl rfl rfl rfl rfl (e d (by omega)) rfl
theorem hp_tune {x : Int32} {n : Int32} (hs : ZS σ) (h : XI m) : ∃ u0 m1 yy1, (XI m1 ∧ FH m m1) ∧ YG yy yy1 ∧ (m1 = (e_tune m x n).2 ∧ HC [1, 2] (e_tune m x n).1 u0 yy1) ∧ zF σ 11 2014 [.ref 0, .int x, .int n, .ref 146] (zS1, m, yy) (.inl (some (.int u0))) (zS1, m1, yy1) := by
  have e := ec_tune (σ := σ) (yy := yy) (m := m) (x := x) (n := n) hs
  have hx0 := tune_x (x := x) (n := n) h
  generalize e_tune m x n = Y at e hx0 ⊢
  obtain ⟨Y1, m1⟩ := Y
  obtain ⟨xa, xi⟩ := hx0
  replace e : zF σ 9 1620 [.ref 0, .int x, .int n] (zS1, m, yy) (xo Y1) (zS1, m1, xy yy Y1) := e.up (by omega)
  replace xa : Al [1, 2] Y1 = true := xa
  replace xi : XI m1 ∧ FH m m1 := xi
  cases Y1 with
  | inl w0 =>
    refine ⟨Int32.ofNat 0, m1, (zl2 yy.1 146 0 w0.toInt64, yy.2), xi, YG.l, ⟨rfl, HC.v⟩, fun d hd => ?_⟩
    obtain ⟨d, rfl⟩ : ∃ k, d = k + 1 := ⟨d - 1, by omega⟩
    show zEv σ (d + 1) 2014 0 [some (.ref 0), some (.int x), some (.int n), some (.ref 146), none] [] _ _ _
    refine zeP rfl rfl ?_
    refine zeKn (c := 0) rfl rfl rfl ?_
    refine zeP rfl rfl ?_
    refine zeP rfl rfl ?_
    refine zeP rfl rfl ?_
    refine zeCV rfl rfl rfl rfl zS00 rfl e (by omega) ?_
    dsimp only [Option.toList, List.cons_append, List.nil_append]
    refine zeP rfl rfl ?_
    refine zeLS rfl ?_
    refine zeP rfl rfl ?_
    refine zeKn (c := 0) rfl rfl rfl ?_
    exact zeRe rfl rfl rfl rfl rfl rfl
  | inr e0 =>
    rcases al_2 xa with he | he
    · subst he
      refine ⟨Int32.ofNat 1, m1, yt yy, xi, YG.t, ⟨rfl, HC.x 0 rfl⟩, fun d hd => ?_⟩
      obtain ⟨d, rfl⟩ : ∃ k, d = k + 1 := ⟨d - 1, by omega⟩
      show zEv σ (d + 1) 2014 0 [some (.ref 0), some (.int x), some (.int n), some (.ref 146), none] [] _ _ _
      refine zeP rfl rfl ?_
      refine zeKn (c := 0) rfl rfl rfl ?_
      refine zeP rfl rfl ?_
      refine zeP rfl rfl ?_
      refine zeP rfl rfl ?_
      exact zeH rfl rfl rfl rfl rfl rfl (e d (by omega)) rfl
    · subst he
      refine ⟨Int32.ofNat 2, m1, yt yy, xi, YG.t, ⟨rfl, HC.x 1 rfl⟩, fun d hd => ?_⟩
      obtain ⟨d, rfl⟩ : ∃ k, d = k + 1 := ⟨d - 1, by omega⟩
      show zEv σ (d + 1) 2014 0 [some (.ref 0), some (.int x), some (.int n), some (.ref 146), none] [] _ _ _
      refine zeP rfl rfl ?_
      refine zeKn (c := 0) rfl rfl rfl ?_
      refine zeP rfl rfl ?_
      refine zeP rfl rfl ?_
      refine zeP rfl rfl ?_
      exact zeH rfl rfl rfl rfl rfl rfl (e d (by omega)) rfl
theorem hp_due {t : Int32} (h : XI m) : ∃ u0 m1 yy1, (XI m1 ∧ FH m m1) ∧ YG yy yy1 ∧ (m1 = (e_due m t).2 ∧ HC [0] (e_due m t).1 u0 yy1) ∧ zF σ 11 2015 [.ref 0, .int t, .ref 146] (zS1, m, yy) (.inl (some (.int u0))) (zS1, m1, yy1) := by
  have e := ec_due (σ := σ) (yy := yy) (m := m) (t := t) h.1.1 h.1.2 h.2.1.1 h.2.1.2
  have hx0 := due_x (t := t) h
  generalize e_due m t = Y at e hx0 ⊢
  obtain ⟨Y1, m1⟩ := Y
  obtain ⟨xa, xi⟩ := hx0
  replace e : zF σ 9 1622 [.ref 0, .int t] (zS1, m, yy) (xo Y1) (zS1, m1, xy yy Y1) := e.up (by omega)
  replace xa : Al [0] Y1 = true := xa
  replace xi : XI m1 ∧ FH m m1 := xi
  cases Y1 with
  | inl w0 =>
    refine ⟨Int32.ofNat 0, m1, (zl2 yy.1 146 0 w0.toInt64, yy.2), xi, YG.l, ⟨rfl, HC.v⟩, fun d hd => ?_⟩
    obtain ⟨d, rfl⟩ : ∃ k, d = k + 1 := ⟨d - 1, by omega⟩
    show zEv σ (d + 1) 2015 0 [some (.ref 0), some (.int t), some (.ref 146), none] [] _ _ _
    refine zeP rfl rfl ?_
    refine zeKn (c := 0) rfl rfl rfl ?_
    refine zeP rfl rfl ?_
    refine zeP rfl rfl ?_
    refine zeCV rfl rfl rfl rfl zS00 rfl e (by omega) ?_
    dsimp only [Option.toList, List.cons_append, List.nil_append]
    refine zeP rfl rfl ?_
    refine zeLS rfl ?_
    refine zeP rfl rfl ?_
    refine zeKn (c := 0) rfl rfl rfl ?_
    exact zeRe rfl rfl rfl rfl rfl rfl
  | inr e0 =>
    have he : e0 = 0 := al_1 xa
    subst he
    refine ⟨Int32.ofNat 1, m1, yt yy, xi, YG.t, ⟨rfl, HC.x 0 rfl⟩, fun d hd => ?_⟩
    obtain ⟨d, rfl⟩ : ∃ k, d = k + 1 := ⟨d - 1, by omega⟩
    show zEv σ (d + 1) 2015 0 [some (.ref 0), some (.int t), some (.ref 146), none] [] _ _ _
    refine zeP rfl rfl ?_
    refine zeKn (c := 0) rfl rfl rfl ?_
    refine zeP rfl rfl ?_
    refine zeP rfl rfl ?_
    exact zeH rfl rfl rfl rfl rfl rfl (e d (by omega)) rfl
theorem hp_quickest {x : Int32} (h : XI m) : ∃ u0 m1 yy1, (XI m1 ∧ FH m m1) ∧ YG yy yy1 ∧ (m1 = (e_quickest m x).2 ∧ HC [1] (e_quickest m x).1 u0 yy1) ∧ zF σ 11 2016 [.ref 0, .int x, .ref 146] (zS1, m, yy) (.inl (some (.int u0))) (zS1, m1, yy1) := by
  have e := ec_quickest (σ := σ) (yy := yy) (m := m) (x := x) h.1.1 h.1.2 h.2.1.1 h.2.1.2
  have hx0 := quickest_x (x := x) h
  generalize e_quickest m x = Y at e hx0 ⊢
  obtain ⟨Y1, m1⟩ := Y
  obtain ⟨xa, xi⟩ := hx0
  replace e : zF σ 9 1623 [.ref 0, .int x] (zS1, m, yy) (xo Y1) (zS1, m1, xy yy Y1) := e.up (by omega)
  replace xa : Al [1] Y1 = true := xa
  replace xi : XI m1 ∧ FH m m1 := xi
  cases Y1 with
  | inl w0 =>
    refine ⟨Int32.ofNat 0, m1, (zl2 yy.1 146 0 w0.toInt64, yy.2), xi, YG.l, ⟨rfl, HC.v⟩, fun d hd => ?_⟩
    obtain ⟨d, rfl⟩ : ∃ k, d = k + 1 := ⟨d - 1, by omega⟩
    show zEv σ (d + 1) 2016 0 [some (.ref 0), some (.int x), some (.ref 146), none] [] _ _ _
    refine zeP rfl rfl ?_
    refine zeKn (c := 0) rfl rfl rfl ?_
    refine zeP rfl rfl ?_
    refine zeP rfl rfl ?_
    refine zeCV rfl rfl rfl rfl zS00 rfl e (by omega) ?_
    dsimp only [Option.toList, List.cons_append, List.nil_append]
    refine zeP rfl rfl ?_
    refine zeLS rfl ?_
    refine zeP rfl rfl ?_
    refine zeKn (c := 0) rfl rfl rfl ?_
    exact zeRe rfl rfl rfl rfl rfl rfl
  | inr e0 =>
    have he : e0 = 1 := al_1 xa
    subst he
    refine ⟨Int32.ofNat 1, m1, yt yy, xi, YG.t, ⟨rfl, HC.x 0 rfl⟩, fun d hd => ?_⟩
    obtain ⟨d, rfl⟩ : ∃ k, d = k + 1 := ⟨d - 1, by omega⟩
    show zEv σ (d + 1) 2016 0 [some (.ref 0), some (.int x), some (.ref 146), none] [] _ _ _
    refine zeP rfl rfl ?_
    refine zeKn (c := 0) rfl rfl rfl ?_
    refine zeP rfl rfl ?_
    refine zeP rfl rfl ?_
    exact zeH rfl rfl rfl rfl rfl rfl (e d (by omega)) rfl
theorem hp_touches {t : Int32} {x : Int32} (h : XI m) : ∃ u0 m1 yy1, (XI m1 ∧ FH m m1) ∧ YG yy yy1 ∧ (m1 = m ∧ HC [0, 1] (e_touches m t x) u0 yy1) ∧ zF σ 11 2017 [.ref 0, .int t, .int x, .ref 146] (zS1, m, yy) (.inl (some (.int u0))) (zS1, m1, yy1) := by
  have e := ec_touches (σ := σ) (yy := yy) (m := m) (t := t) (x := x) h.1.1 h.1.2
  have xa : Al [0, 1] (e_touches m t x) = true := al_touches
  have xi : XI m ∧ FH m m := ⟨h, FH.rf⟩
  generalize e_touches m t x = Y1 at e xa ⊢
  cases Y1 with
  | inl w0 =>
    refine ⟨Int32.ofNat 0, m, (zl2 yy.1 146 0 w0.toInt64, yy.2), xi, YG.l, ⟨rfl, HC.v⟩, fun d hd => ?_⟩
    obtain ⟨d, rfl⟩ : ∃ k, d = k + 1 := ⟨d - 1, by omega⟩
    show zEv σ (d + 1) 2017 0 [some (.ref 0), some (.int t), some (.int x), some (.ref 146), none] [] _ _ _
    refine zeP rfl rfl ?_
    refine zeKn (c := 0) rfl rfl rfl ?_
    refine zeP rfl rfl ?_
    refine zeP rfl rfl ?_
    refine zeP rfl rfl ?_
    refine zeCV rfl rfl rfl rfl zS00 rfl e (by omega) ?_
    dsimp only [Option.toList, List.cons_append, List.nil_append]
    refine zeP rfl rfl ?_
    refine zeLS rfl ?_
    refine zeP rfl rfl ?_
    refine zeKn (c := 0) rfl rfl rfl ?_
    exact zeRe rfl rfl rfl rfl rfl rfl
  | inr e0 =>
    rcases al_2 xa with he | he
    · subst he
      refine ⟨Int32.ofNat 1, m, yt yy, xi, YG.t, ⟨rfl, HC.x 0 rfl⟩, fun d hd => ?_⟩
      obtain ⟨d, rfl⟩ : ∃ k, d = k + 1 := ⟨d - 1, by omega⟩
      show zEv σ (d + 1) 2017 0 [some (.ref 0), some (.int t), some (.int x), some (.ref 146), none] [] _ _ _
      refine zeP rfl rfl ?_
      refine zeKn (c := 0) rfl rfl rfl ?_
      refine zeP rfl rfl ?_
      refine zeP rfl rfl ?_
      refine zeP rfl rfl ?_
      exact zeH rfl rfl rfl rfl rfl rfl (e d (by omega)) rfl
    · subst he
      refine ⟨Int32.ofNat 2, m, yt yy, xi, YG.t, ⟨rfl, HC.x 1 rfl⟩, fun d hd => ?_⟩
      obtain ⟨d, rfl⟩ : ∃ k, d = k + 1 := ⟨d - 1, by omega⟩
      show zEv σ (d + 1) 2017 0 [some (.ref 0), some (.int t), some (.int x), some (.ref 146), none] [] _ _ _
      refine zeP rfl rfl ?_
      refine zeKn (c := 0) rfl rfl rfl ?_
      refine zeP rfl rfl ?_
      refine zeP rfl rfl ?_
      refine zeP rfl rfl ?_
      exact zeH rfl rfl rfl rfl rfl rfl (e d (by omega)) rfl
theorem hp_rivals {t : Int32} {u : Int32} (h : XI m) : ∃ u0 m1 yy1, (XI m1 ∧ FH m m1) ∧ YG yy yy1 ∧ (m1 = m ∧ HC [0, 2] (e_rivals m t u) u0 yy1) ∧ zF σ 11 2018 [.ref 0, .int t, .int u, .ref 146] (zS1, m, yy) (.inl (some (.int u0))) (zS1, m1, yy1) := by
  have e := ec_rivals (σ := σ) (yy := yy) (m := m) (t := t) (u := u) h.1.1 h.1.2
  have xa : Al [0, 2] (e_rivals m t u) = true := al_rivals
  have xi : XI m ∧ FH m m := ⟨h, FH.rf⟩
  generalize e_rivals m t u = Y1 at e xa ⊢
  cases Y1 with
  | inl w0 =>
    refine ⟨Int32.ofNat 0, m, (zl2 yy.1 146 0 w0.toInt64, yy.2), xi, YG.l, ⟨rfl, HC.v⟩, fun d hd => ?_⟩
    obtain ⟨d, rfl⟩ : ∃ k, d = k + 1 := ⟨d - 1, by omega⟩
    show zEv σ (d + 1) 2018 0 [some (.ref 0), some (.int t), some (.int u), some (.ref 146), none] [] _ _ _
    refine zeP rfl rfl ?_
    refine zeKn (c := 0) rfl rfl rfl ?_
    refine zeP rfl rfl ?_
    refine zeP rfl rfl ?_
    refine zeP rfl rfl ?_
    refine zeCV rfl rfl rfl rfl zS00 rfl e (by omega) ?_
    dsimp only [Option.toList, List.cons_append, List.nil_append]
    refine zeP rfl rfl ?_
    refine zeLS rfl ?_
    refine zeP rfl rfl ?_
    refine zeKn (c := 0) rfl rfl rfl ?_
    exact zeRe rfl rfl rfl rfl rfl rfl
  | inr e0 =>
    rcases al_2 xa with he | he
    · subst he
      refine ⟨Int32.ofNat 1, m, yt yy, xi, YG.t, ⟨rfl, HC.x 0 rfl⟩, fun d hd => ?_⟩
      obtain ⟨d, rfl⟩ : ∃ k, d = k + 1 := ⟨d - 1, by omega⟩
      show zEv σ (d + 1) 2018 0 [some (.ref 0), some (.int t), some (.int u), some (.ref 146), none] [] _ _ _
      refine zeP rfl rfl ?_
      refine zeKn (c := 0) rfl rfl rfl ?_
      refine zeP rfl rfl ?_
      refine zeP rfl rfl ?_
      refine zeP rfl rfl ?_
      exact zeH rfl rfl rfl rfl rfl rfl (e d (by omega)) rfl
    · subst he
      refine ⟨Int32.ofNat 2, m, yt yy, xi, YG.t, ⟨rfl, HC.x 1 rfl⟩, fun d hd => ?_⟩
      obtain ⟨d, rfl⟩ : ∃ k, d = k + 1 := ⟨d - 1, by omega⟩
      show zEv σ (d + 1) 2018 0 [some (.ref 0), some (.int t), some (.int u), some (.ref 146), none] [] _ _ _
      refine zeP rfl rfl ?_
      refine zeKn (c := 0) rfl rfl rfl ?_
      refine zeP rfl rfl ?_
      refine zeP rfl rfl ?_
      refine zeP rfl rfl ?_
      exact zeH rfl rfl rfl rfl rfl rfl (e d (by omega)) rfl
theorem hp_nest {t : Int32} (h : XI m) : ∃ u0 m1 yy1, (XI m1 ∧ FH m m1) ∧ YG yy yy1 ∧ (m1 = m ∧ HC [0] (e_nest m t) u0 yy1) ∧ zF σ 11 2019 [.ref 0, .int t, .ref 146] (zS1, m, yy) (.inl (some (.int u0))) (zS1, m1, yy1) := by
  have e := ec_nest (σ := σ) (yy := yy) (m := m) (t := t) h.1.1 h.1.2
  have xa : Al [0] (e_nest m t) = true := al_nest
  have xi : XI m ∧ FH m m := ⟨h, FH.rf⟩
  generalize e_nest m t = Y1 at e xa ⊢
  cases Y1 with
  | inl w0 =>
    refine ⟨Int32.ofNat 0, m, (zl2 yy.1 146 0 w0.toInt64, yy.2), xi, YG.l, ⟨rfl, HC.v⟩, fun d hd => ?_⟩
    obtain ⟨d, rfl⟩ : ∃ k, d = k + 1 := ⟨d - 1, by omega⟩
    show zEv σ (d + 1) 2019 0 [some (.ref 0), some (.int t), some (.ref 146), none] [] _ _ _
    refine zeP rfl rfl ?_
    refine zeKn (c := 0) rfl rfl rfl ?_
    refine zeP rfl rfl ?_
    refine zeP rfl rfl ?_
    refine zeCV rfl rfl rfl rfl zS00 rfl e (by omega) ?_
    dsimp only [Option.toList, List.cons_append, List.nil_append]
    refine zeP rfl rfl ?_
    refine zeLS rfl ?_
    refine zeP rfl rfl ?_
    refine zeKn (c := 0) rfl rfl rfl ?_
    exact zeRe rfl rfl rfl rfl rfl rfl
  | inr e0 =>
    have he : e0 = 0 := al_1 xa
    subst he
    refine ⟨Int32.ofNat 1, m, yt yy, xi, YG.t, ⟨rfl, HC.x 0 rfl⟩, fun d hd => ?_⟩
    obtain ⟨d, rfl⟩ : ∃ k, d = k + 1 := ⟨d - 1, by omega⟩
    show zEv σ (d + 1) 2019 0 [some (.ref 0), some (.int t), some (.ref 146), none] [] _ _ _
    refine zeP rfl rfl ?_
    refine zeKn (c := 0) rfl rfl rfl ?_
    refine zeP rfl rfl ?_
    refine zeP rfl rfl ?_
    exact zeH rfl rfl rfl rfl rfl rfl (e d (by omega)) rfl
theorem hp_parts {t : Int32} (h : XI m) : ∃ u0 m1 yy1, (XI m1 ∧ FH m m1) ∧ YG yy yy1 ∧ (m1 = m ∧ HC [0] (e_parts m t) u0 yy1) ∧ zF σ 11 2020 [.ref 0, .int t, .ref 146] (zS1, m, yy) (.inl (some (.int u0))) (zS1, m1, yy1) := by
  have e := ec_parts (σ := σ) (yy := yy) (m := m) (t := t) h.1.1 h.1.2
  have xa : Al [0] (e_parts m t) = true := al_parts
  have xi : XI m ∧ FH m m := ⟨h, FH.rf⟩
  generalize e_parts m t = Y1 at e xa ⊢
  cases Y1 with
  | inl w0 =>
    refine ⟨Int32.ofNat 0, m, (zl2 yy.1 146 0 w0.toInt64, yy.2), xi, YG.l, ⟨rfl, HC.v⟩, fun d hd => ?_⟩
    obtain ⟨d, rfl⟩ : ∃ k, d = k + 1 := ⟨d - 1, by omega⟩
    show zEv σ (d + 1) 2020 0 [some (.ref 0), some (.int t), some (.ref 146), none] [] _ _ _
    refine zeP rfl rfl ?_
    refine zeKn (c := 0) rfl rfl rfl ?_
    refine zeP rfl rfl ?_
    refine zeP rfl rfl ?_
    refine zeCV rfl rfl rfl rfl zS00 rfl e (by omega) ?_
    dsimp only [Option.toList, List.cons_append, List.nil_append]
    refine zeP rfl rfl ?_
    refine zeLS rfl ?_
    refine zeP rfl rfl ?_
    refine zeKn (c := 0) rfl rfl rfl ?_
    exact zeRe rfl rfl rfl rfl rfl rfl
  | inr e0 =>
    have he : e0 = 0 := al_1 xa
    subst he
    refine ⟨Int32.ofNat 1, m, yt yy, xi, YG.t, ⟨rfl, HC.x 0 rfl⟩, fun d hd => ?_⟩
    obtain ⟨d, rfl⟩ : ∃ k, d = k + 1 := ⟨d - 1, by omega⟩
    show zEv σ (d + 1) 2020 0 [some (.ref 0), some (.int t), some (.ref 146), none] [] _ _ _
    refine zeP rfl rfl ?_
    refine zeKn (c := 0) rfl rfl rfl ?_
    refine zeP rfl rfl ?_
    refine zeP rfl rfl ?_
    exact zeH rfl rfl rfl rfl rfl rfl (e d (by omega)) rfl
theorem hp_output {k : Int32} {x : Int32} (h : XI m) : ∃ u0 m1 yy1, (XI m1 ∧ FH m m1) ∧ YG yy yy1 ∧ (m1 = m ∧ HC [1] (e_output m k x) u0 yy1) ∧ zF σ 11 2021 [.ref 0, .int k, .int x, .ref 146] (zS1, m, yy) (.inl (some (.int u0))) (zS1, m1, yy1) := by
  have e := ec_output (σ := σ) (yy := yy) (m := m) (k := k) (x := x) h.1.1
  have xa : Al [1] (e_output m k x) = true := al_output
  have xi : XI m ∧ FH m m := ⟨h, FH.rf⟩
  generalize e_output m k x = Y1 at e xa ⊢
  cases Y1 with
  | inl w0 =>
    refine ⟨Int32.ofNat 0, m, (zl2 yy.1 146 0 w0.toInt64, yy.2), xi, YG.l, ⟨rfl, HC.v⟩, fun d hd => ?_⟩
    obtain ⟨d, rfl⟩ : ∃ k, d = k + 1 := ⟨d - 1, by omega⟩
    show zEv σ (d + 1) 2021 0 [some (.ref 0), some (.int k), some (.int x), some (.ref 146), none] [] _ _ _
    refine zeP rfl rfl ?_
    refine zeKn (c := 0) rfl rfl rfl ?_
    refine zeP rfl rfl ?_
    refine zeP rfl rfl ?_
    refine zeP rfl rfl ?_
    refine zeCV rfl rfl rfl rfl zS00 rfl e (by omega) ?_
    dsimp only [Option.toList, List.cons_append, List.nil_append]
    refine zeP rfl rfl ?_
    refine zeLS rfl ?_
    refine zeP rfl rfl ?_
    refine zeKn (c := 0) rfl rfl rfl ?_
    exact zeRe rfl rfl rfl rfl rfl rfl
  | inr e0 =>
    have he : e0 = 1 := al_1 xa
    subst he
    refine ⟨Int32.ofNat 1, m, yt yy, xi, YG.t, ⟨rfl, HC.x 0 rfl⟩, fun d hd => ?_⟩
    obtain ⟨d, rfl⟩ : ∃ k, d = k + 1 := ⟨d - 1, by omega⟩
    show zEv σ (d + 1) 2021 0 [some (.ref 0), some (.int k), some (.int x), some (.ref 146), none] [] _ _ _
    refine zeP rfl rfl ?_
    refine zeKn (c := 0) rfl rfl rfl ?_
    refine zeP rfl rfl ?_
    refine zeP rfl rfl ?_
    refine zeP rfl rfl ?_
    exact zeH rfl rfl rfl rfl rfl rfl (e d (by omega)) rfl
theorem hp_log {k : Int32} {x : Int32} (h : XI m) : ∃ u0 m1 yy1, (XI m1 ∧ FH m m1) ∧ YG yy yy1 ∧ (m1 = m ∧ HC [1] (e_log m k x) u0 yy1) ∧ zF σ 11 2022 [.ref 0, .int k, .int x, .ref 146] (zS1, m, yy) (.inl (some (.int u0))) (zS1, m1, yy1) := by
  have e := ec_log (σ := σ) (yy := yy) (m := m) (k := k) (x := x) 
  have xa : Al [1] (e_log m k x) = true := al_log
  have xi : XI m ∧ FH m m := ⟨h, FH.rf⟩
  generalize e_log m k x = Y1 at e xa ⊢
  cases Y1 with
  | inl w0 =>
    refine ⟨Int32.ofNat 0, m, (zl2 yy.1 146 0 w0.toInt64, yy.2), xi, YG.l, ⟨rfl, HC.v⟩, fun d hd => ?_⟩
    obtain ⟨d, rfl⟩ : ∃ k, d = k + 1 := ⟨d - 1, by omega⟩
    show zEv σ (d + 1) 2022 0 [some (.ref 0), some (.int k), some (.int x), some (.ref 146), none] [] _ _ _
    refine zeP rfl rfl ?_
    refine zeKn (c := 0) rfl rfl rfl ?_
    refine zeP rfl rfl ?_
    refine zeP rfl rfl ?_
    refine zeP rfl rfl ?_
    refine zeCV rfl rfl rfl rfl zS00 rfl e (by omega) ?_
    dsimp only [Option.toList, List.cons_append, List.nil_append]
    refine zeP rfl rfl ?_
    refine zeLS rfl ?_
    refine zeP rfl rfl ?_
    refine zeKn (c := 0) rfl rfl rfl ?_
    exact zeRe rfl rfl rfl rfl rfl rfl
  | inr e0 =>
    have he : e0 = 1 := al_1 xa
    subst he
    refine ⟨Int32.ofNat 1, m, yt yy, xi, YG.t, ⟨rfl, HC.x 0 rfl⟩, fun d hd => ?_⟩
    obtain ⟨d, rfl⟩ : ∃ k, d = k + 1 := ⟨d - 1, by omega⟩
    show zEv σ (d + 1) 2022 0 [some (.ref 0), some (.int k), some (.int x), some (.ref 146), none] [] _ _ _
    refine zeP rfl rfl ?_
    refine zeKn (c := 0) rfl rfl rfl ?_
    refine zeP rfl rfl ?_
    refine zeP rfl rfl ?_
    refine zeP rfl rfl ?_
    exact zeH rfl rfl rfl rfl rfl rfl (e d (by omega)) rfl
theorem hp_text {t : Int32} (h : XI m) : ∃ u0 m1 yy1, (XI m1 ∧ FH m m1) ∧ YG yy yy1 ∧ (WF m m1) ∧ zF σ 11 2023 [.ref 0, .int t, .ref 146] (zS1, m, yy) (.inl (some (.int u0))) (zS1, m1, yy1) := by
  obtain ⟨Y1, m1, w, xa, e⟩ := ec_text (σ := σ) (yy := yy) (m := m) (t := t) h.1.1 h.1.2 h.2.2.2.2.2.1
  have xi : XI m1 ∧ FH m m1 := WF.x h w
  cases Y1 with
  | inl w0 =>
    refine ⟨Int32.ofNat 0, m1, (zl2 yy.1 146 0 w0.toInt64, yy.2), xi, YG.l, w, fun d hd => ?_⟩
    obtain ⟨d, rfl⟩ : ∃ k, d = k + 1 := ⟨d - 1, by omega⟩
    show zEv σ (d + 1) 2023 0 [some (.ref 0), some (.int t), some (.ref 146), none] [] _ _ _
    refine zeP rfl rfl ?_
    refine zeKn (c := 0) rfl rfl rfl ?_
    refine zeP rfl rfl ?_
    refine zeP rfl rfl ?_
    refine zeCV rfl rfl rfl rfl zS00 rfl e (by omega) ?_
    dsimp only [Option.toList, List.cons_append, List.nil_append]
    refine zeP rfl rfl ?_
    refine zeLS rfl ?_
    refine zeP rfl rfl ?_
    refine zeKn (c := 0) rfl rfl rfl ?_
    exact zeRe rfl rfl rfl rfl rfl rfl
  | inr e0 =>
    have he : e0 = 0 := xa _ rfl
    subst he
    refine ⟨Int32.ofNat 1, m1, yt yy, xi, YG.t, w, fun d hd => ?_⟩
    obtain ⟨d, rfl⟩ : ∃ k, d = k + 1 := ⟨d - 1, by omega⟩
    show zEv σ (d + 1) 2023 0 [some (.ref 0), some (.int t), some (.ref 146), none] [] _ _ _
    refine zeP rfl rfl ?_
    refine zeKn (c := 0) rfl rfl rfl ?_
    refine zeP rfl rfl ?_
    refine zeP rfl rfl ?_
    exact zeH rfl rfl rfl rfl rfl rfl (e d (by omega)) rfl
end ZHP
