/-! what a call comes to on both sides -/
noncomputable def MI (m : Nat → Nat → Int32) : Prop := MJ m (m 138)
theorem zrow_sf (m : Nat → Nat → Int32) : zrow m 138 (m 138) = m := by
  funext i
  by_cases h : i = 138
  · subst h
    exact if_pos rfl
  · exact if_neg h
theorem XI.lo {m m' : Nat → Nat → Int32} (h : XI m) (f : LO m m') : XI m' := by
  have g : ∀ i l, i < 137 → m' i l = m i l := fun i l hi => congrFun (f i hi) l
  exact h.out (fun i l _ h2 => g i l (by omega)) (h.2.2.2.1.of (g _ _ (by omega))) (h.2.2.2.2.1.of (g _ _ (by omega))) (h.2.2.2.2.2.1.of (g _ _ (by omega))) (fun u hu => (h.2.2.2.2.2.2 u hu).of (g _ _ (by omega)))
theorem MI.fi {m m' : Nat → Nat → Int32} (h : MI m) (f : ∀ i l, 137 ≤ i → m' i l = m i l) : MI m' := by
  have g : ∀ i, 137 ≤ i → m' i = m i := fun i hi => funext (fun l => f i l hi)
  unfold MI MJ at *
  rw [g 138 (by omega), g 139 (by omega), f 137 4 (by omega)]
  refine ⟨h.1, h.2.1, h.2.2.1.of (f _ _ (by omega)), ?_, h.2.2.2.2.of (f _ _ (by omega))⟩
  rw [f 137 10 (by omega)]
  exact h.2.2.2.1
theorem MI.fg {m m' : Nat → Nat → Int32} (h : MI m) (f : FG m m') : MI m' := h.fi (fun i l hi => f i l (by omega))
/-- what the law keeps -/
noncomputable def LI (m : Nat → Nat → Int32) : Prop := XI m ∧ MI m ∧ LR m
section ZRR
variable {L : Nat} {xs : Nat → Int32} {yy : (Nat → Nat → Int64) × Bool × Nat × Nat} {m m' m1 : Nat → Nat → Int32} {W' : Nat → Int32}
theorem zsig_S : ZS (zsig L xs) := fun n _ => rfl
theorem MJ.up (h : MJ m' W') : MI (zrow m' 138 W') := ⟨h.1, h.2.1, h.2.2.1, h.2.2.2.1, h.2.2.2.2⟩
theorem LO.up (h : LO m m') : LO m (zrow m' 138 W') := fun i hi => (zrow_ne (by omega)).trans (h i hi)
theorem LI.T (h : LI m) : m 137 7 = Int32.ofNat (mv m 137 7) ∧ mv m 137 7 ≤ 400 := h.2.1.2.2.1
/-- the reference asks, changing nothing that matters -/
theorem LI.ask (h : LI m) (f : MR m m') : LI (zrow m' 138 (m 138)) := ⟨h.1.lo f.lo.up, (h.2.1.mr f h.2.1.1).up, h.2.2.ask f⟩
/-- both have gone on -/
theorem LI.go {Q : Int32 × (Nat → Int32) × (Nat → Nat → Int32)} (h : LI m) (xi : XI m1) (hf : ∀ i l, i = 0 ∨ (85 ≤ i ∧ i ≠ 131) → m1 i l = m i l) (q : QK m1 Q) (r : RC m1 1 Q.2.1) (z : WZ Q.2.1) (x : TX Q.2.1) : LI (zrow Q.2.2 138 Q.2.1) := ⟨xi.lo q.2.lo.up, ((h.2.1.fi (fun i l hi => hf i l (by omega))).mr q.2 q.1).up, h.2.2.new (fun i l hi => hf i l (by omega)) q.2 r z x⟩
theorem lr_thread {t : Int32} {x : Int32} (h : LI m) : ∃ u0 yy1 v2 m2, LI m2 ∧ YG yy yy1 ∧ zF (zsig L xs) 11 2001 [.ref 0, .int t, .int x, .ref 146] (zS1, m, yy) (.inl (some (.int u0))) (zS1, m, yy1) ∧ zF (zsig L xs) 19 1872 [.ref 137, .int t, .int x] (zS1, m, yy1) (.inl (some (.int v2))) (zS1, m2, yy1) ∧ HV u0 yy1 (m2 137 0) v2 := by
  obtain ⟨u0, m1, yy1, -, yg, ⟨em, hc⟩, b1⟩ := hp_thread (σ := zsig L xs) (yy := yy) (t := t) (x := x) h.1
  subst em
  have e := c_thread (σ := zsig L xs) (yy := yy1) (m := m1) (W := m1 138) (t := t) (x := x) h.2.1.1.1
  rw [zrow_sf] at e
  have f := thread_mr (m := m1) (W := m1 138) (t := t) (x := x)
  exact ⟨u0, yy1, _, _, h.ask f, yg, b1, e.up (by omega), hc.an (by decide) (by decide) (an_thread (t := t) (x := x) h.2.2 m1)⟩
theorem lr_leftOut {t : Int32} {k : Int32} (h : LI m) : ∃ u0 yy1 v2 m2, LI m2 ∧ YG yy yy1 ∧ zF (zsig L xs) 11 2002 [.ref 0, .int t, .int k, .ref 146] (zS1, m, yy) (.inl (some (.int u0))) (zS1, m, yy1) ∧ zF (zsig L xs) 19 1873 [.ref 137, .int t, .int k] (zS1, m, yy1) (.inl (some (.int v2))) (zS1, m2, yy1) ∧ HV u0 yy1 (m2 137 0) v2 := by
  obtain ⟨u0, m1, yy1, -, yg, ⟨em, hc⟩, b1⟩ := hp_leftOut (σ := zsig L xs) (yy := yy) (t := t) (k := k) h.1
  subst em
  have e := c_leftOut (σ := zsig L xs) (yy := yy1) (m := m1) (W := m1 138) (t := t) (k := k) h.2.1.1.1
  rw [zrow_sf] at e
  have f := leftOut_mr (m := m1) (W := m1 138) (t := t) (k := k)
  exact ⟨u0, yy1, _, _, h.ask f, yg, b1, e.up (by omega), hc.an (by decide) (by decide) (an_leftOut (t := t) (k := k) h.2.2 m1)⟩
theorem lr_blocks {t : Int32} {x : Int32} (h : LI m) : ∃ u0 yy1 v2 m2, LI m2 ∧ YG yy yy1 ∧ zF (zsig L xs) 11 2003 [.ref 0, .int t, .int x, .ref 146] (zS1, m, yy) (.inl (some (.int u0))) (zS1, m, yy1) ∧ zF (zsig L xs) 19 1874 [.ref 137, .int t, .int x] (zS1, m, yy1) (.inl (some (.int v2))) (zS1, m2, yy1) ∧ HV u0 yy1 (m2 137 0) v2 := by
  obtain ⟨u0, m1, yy1, -, yg, ⟨em, hc⟩, b1⟩ := hp_blocks (σ := zsig L xs) (yy := yy) (t := t) (x := x) h.1
  subst em
  have e := c_blocks (σ := zsig L xs) (yy := yy1) (m := m1) (W := m1 138) (t := t) (x := x) h.2.1.1.1
  rw [zrow_sf] at e
  have f := blocks_mr (m := m1) (W := m1 138) (t := t) (x := x)
  exact ⟨u0, yy1, _, _, h.ask f, yg, b1, e.up (by omega), hc.an (by decide) (by decide) (an_blocks (t := t) (x := x) h.2.2 m1)⟩
theorem lr_fell {t : Int32} {x : Int32} (h : LI m) : ∃ u0 yy1 v2 m2, LI m2 ∧ YG yy yy1 ∧ zF (zsig L xs) 11 2004 [.ref 0, .int t, .int x, .ref 146] (zS1, m, yy) (.inl (some (.int u0))) (zS1, m, yy1) ∧ zF (zsig L xs) 19 1875 [.ref 137, .int t, .int x] (zS1, m, yy1) (.inl (some (.int v2))) (zS1, m2, yy1) ∧ HV u0 yy1 (m2 137 0) v2 := by
  obtain ⟨u0, m1, yy1, -, yg, ⟨em, hc⟩, b1⟩ := hp_fell (σ := zsig L xs) (yy := yy) (t := t) (x := x) h.1
  subst em
  have e := c_fell (σ := zsig L xs) (yy := yy1) (m := m1) (W := m1 138) (t := t) (y := x) h.2.1.1.1
  rw [zrow_sf] at e
  have f := fell_mr (m := m1) (W := m1 138) (t := t) (y := x)
  exact ⟨u0, yy1, _, _, h.ask f, yg, b1, e.up (by omega), hc.an (by decide) (by decide) (an_fell (t := t) (x := x) h.2.2 m1)⟩
theorem lr_word {w : Int32} (h : LI m) : ∃ u0 yy1 v2 m2, LI m2 ∧ YG yy yy1 ∧ zF (zsig L xs) 11 2005 [.ref 0, .int w, .ref 146] (zS1, m, yy) (.inl (some (.int u0))) (zS1, m, yy1) ∧ zF (zsig L xs) 19 1877 [.ref 137, .int w] (zS1, m, yy1) (.inl (some (.int v2))) (zS1, m2, yy1) ∧ HV u0 yy1 (m2 137 0) v2 := by
  obtain ⟨u0, m1, yy1, -, yg, ⟨em, hc⟩, b1⟩ := hp_word (σ := zsig L xs) (yy := yy) (w := w) h.1
  subst em
  have e := c_word (σ := zsig L xs) (yy := yy1) (m := m1) (W := m1 138) (w := w) 
  rw [zrow_sf] at e
  have f := word_mr (m := m1) (W := m1 138) (w := w)
  exact ⟨u0, yy1, _, _, h.ask f, yg, b1, e.up (by omega), hc.an (by decide) (by decide) (an_word (w := w) h.2.2 m1)⟩
theorem lr_sees {t : Int32} {w : Int32} (h : LI m) : ∃ u0 yy1 v2 m2, LI m2 ∧ YG yy yy1 ∧ zF (zsig L xs) 11 2006 [.ref 0, .int t, .int w, .ref 146] (zS1, m, yy) (.inl (some (.int u0))) (zS1, m, yy1) ∧ zF (zsig L xs) 19 1878 [.ref 137, .int t, .int w] (zS1, m, yy1) (.inl (some (.int v2))) (zS1, m2, yy1) ∧ HV u0 yy1 (m2 137 0) v2 := by
  obtain ⟨u0, m1, yy1, -, yg, ⟨em, hc⟩, b1⟩ := hp_sees (σ := zsig L xs) (yy := yy) (t := t) (w := w) h.1
  subst em
  have e := c_sees (σ := zsig L xs) (yy := yy1) (m := m1) (W := m1 138) (t := t) (w := w) h.2.1.1.1
  rw [zrow_sf] at e
  have f := sees_mr (m := m1) (W := m1 138) (t := t) (w := w)
  exact ⟨u0, yy1, _, _, h.ask f, yg, b1, e.up (by omega), hc.an (by decide) (by decide) (an_sees (t := t) (w := w) h.2.2 m1)⟩
theorem lr_lock {l : Int32} {x : Int32} (h : LI m) : ∃ u0 yy1 v2 m2, LI m2 ∧ YG yy yy1 ∧ zF (zsig L xs) 11 2007 [.ref 0, .int l, .int x, .ref 146] (zS1, m, yy) (.inl (some (.int u0))) (zS1, m, yy1) ∧ zF (zsig L xs) 19 1880 [.ref 137, .int l, .int x] (zS1, m, yy1) (.inl (some (.int v2))) (zS1, m2, yy1) ∧ HV u0 yy1 (m2 137 0) v2 := by
  obtain ⟨u0, m1, yy1, -, yg, ⟨em, hc⟩, b1⟩ := hp_lock (σ := zsig L xs) (yy := yy) (l := l) (x := x) h.1
  subst em
  have e := c_lock (σ := zsig L xs) (yy := yy1) (m := m1) (W := m1 138) (l := l) (x := x) h.2.1.1.1
  rw [zrow_sf] at e
  have f := lock_mr (m := m1) (W := m1 138) (l := l) (x := x)
  exact ⟨u0, yy1, _, _, h.ask f, yg, b1, e.up (by omega), hc.an (by decide) (by decide) (an_lock (l := l) (x := x) h.2.2 m1)⟩
theorem lr_term {x : Int32} (h : LI m) : ∃ u0 yy1 v2 m2, LI m2 ∧ YG yy yy1 ∧ zF (zsig L xs) 11 2008 [.ref 0, .int x, .ref 146] (zS1, m, yy) (.inl (some (.int u0))) (zS1, m, yy1) ∧ zF (zsig L xs) 19 1881 [.ref 137, .int x] (zS1, m, yy1) (.inl (some (.int v2))) (zS1, m2, yy1) ∧ HV u0 yy1 (m2 137 0) v2 := by
  obtain ⟨u0, m1, yy1, -, yg, ⟨em, hc⟩, b1⟩ := hp_term (σ := zsig L xs) (yy := yy) (x := x) h.1
  subst em
  have e := c_term (σ := zsig L xs) (yy := yy1) (m := m1) (W := m1 138) (x := x) 
  rw [zrow_sf] at e
  have f := term_mr (m := m1) (W := m1 138) (x := x)
  exact ⟨u0, yy1, _, _, h.ask f, yg, b1, e.up (by omega), hc.an (by decide) (by decide) (an_term (x := x) h.2.2 m1)⟩
theorem lr_deed {t : Int32} {k : Int32} {x : Int32} (h : LI m) : ∃ u0 yy1 v2 m2, LI m2 ∧ YG yy yy1 ∧ zF (zsig L xs) 11 2009 [.ref 0, .int t, .int k, .int x, .ref 146] (zS1, m, yy) (.inl (some (.int u0))) (zS1, m, yy1) ∧ zF (zsig L xs) 19 1882 [.ref 137, .int t, .int k, .int x] (zS1, m, yy1) (.inl (some (.int v2))) (zS1, m2, yy1) ∧ HV u0 yy1 (m2 137 0) v2 := by
  obtain ⟨u0, m1, yy1, -, yg, ⟨em, hc⟩, b1⟩ := hp_deed (σ := zsig L xs) (yy := yy) (t := t) (k := k) (x := x) h.1
  subst em
  have e := c_deed (σ := zsig L xs) (yy := yy1) (m := m1) (W := m1 138) (t := t) (p := k) (x := x) h.2.1.1.1
  rw [zrow_sf] at e
  have f := deed_mr (m := m1) (W := m1 138) (t := t) (p := k) (x := x)
  exact ⟨u0, yy1, _, _, h.ask f, yg, b1, e.up (by omega), hc.an (by decide) (by decide) (an_deed (t := t) (k := k) (x := x) h.2.2 m1)⟩
theorem lr_touches {t : Int32} {x : Int32} (h : LI m) : ∃ u0 yy1 v2 m2, LI m2 ∧ YG yy yy1 ∧ zF (zsig L xs) 11 2017 [.ref 0, .int t, .int x, .ref 146] (zS1, m, yy) (.inl (some (.int u0))) (zS1, m, yy1) ∧ zF (zsig L xs) 19 1895 [.ref 137, .int t, .int x] (zS1, m, yy1) (.inl (some (.int v2))) (zS1, m2, yy1) ∧ HV u0 yy1 (m2 137 0) v2 := by
  obtain ⟨u0, m1, yy1, -, yg, ⟨em, hc⟩, b1⟩ := hp_touches (σ := zsig L xs) (yy := yy) (t := t) (x := x) h.1
  subst em
  have e := c_touches (σ := zsig L xs) (yy := yy1) (m := m1) (W := m1 138) (t := t) (x := x) h.2.1.1.1
  rw [zrow_sf] at e
  have f := touches_mr (m := m1) (W := m1 138) (t := t) (x := x)
  exact ⟨u0, yy1, _, _, h.ask f, yg, b1, e.up (by omega), hc.an (by decide) (by decide) (an_touches (t := t) (x := x) h.2.2 m1)⟩
theorem lr_rivals {t : Int32} {u : Int32} (h : LI m) : ∃ u0 yy1 v2 m2, LI m2 ∧ YG yy yy1 ∧ zF (zsig L xs) 11 2018 [.ref 0, .int t, .int u, .ref 146] (zS1, m, yy) (.inl (some (.int u0))) (zS1, m, yy1) ∧ zF (zsig L xs) 19 1896 [.ref 137, .int t, .int u] (zS1, m, yy1) (.inl (some (.int v2))) (zS1, m2, yy1) ∧ HV u0 yy1 (m2 137 0) v2 := by
  obtain ⟨u0, m1, yy1, -, yg, ⟨em, hc⟩, b1⟩ := hp_rivals (σ := zsig L xs) (yy := yy) (t := t) (u := u) h.1
  subst em
  have e := c_rivals (σ := zsig L xs) (yy := yy1) (m := m1) (W := m1 138) (t := t) (u := u) h.2.1.1.1
  rw [zrow_sf] at e
  have f := rivals_mr (m := m1) (W := m1 138) (t := t) (u := u)
  exact ⟨u0, yy1, _, _, h.ask f, yg, b1, e.up (by omega), hc.an (by decide) (by decide) (an_rivals (t := t) (u := u) h.2.2 m1)⟩
theorem lr_nest {t : Int32} (h : LI m) : ∃ u0 yy1 v2 m2, LI m2 ∧ YG yy yy1 ∧ zF (zsig L xs) 11 2019 [.ref 0, .int t, .ref 146] (zS1, m, yy) (.inl (some (.int u0))) (zS1, m, yy1) ∧ zF (zsig L xs) 19 1898 [.ref 137, .int t] (zS1, m, yy1) (.inl (some (.int v2))) (zS1, m2, yy1) ∧ HV u0 yy1 (m2 137 0) v2 := by
  obtain ⟨u0, m1, yy1, -, yg, ⟨em, hc⟩, b1⟩ := hp_nest (σ := zsig L xs) (yy := yy) (t := t) h.1
  subst em
  have e := c_nest (σ := zsig L xs) (yy := yy1) (m := m1) (W := m1 138) (t := t) h.2.1.1.1
  rw [zrow_sf] at e
  have f := nest_mr (m := m1) (W := m1 138) (t := t)
  exact ⟨u0, yy1, _, _, h.ask f, yg, b1, e.up (by omega), hc.an (by decide) (by decide) (an_nest (t := t) h.2.2 m1)⟩
theorem lr_parts {t : Int32} (h : LI m) : ∃ u0 yy1 v2 m2, LI m2 ∧ YG yy yy1 ∧ zF (zsig L xs) 11 2020 [.ref 0, .int t, .ref 146] (zS1, m, yy) (.inl (some (.int u0))) (zS1, m, yy1) ∧ zF (zsig L xs) 19 1901 [.ref 137, .int t] (zS1, m, yy1) (.inl (some (.int v2))) (zS1, m2, yy1) ∧ HV u0 yy1 (m2 137 0) v2 := by
  obtain ⟨u0, m1, yy1, -, yg, ⟨em, hc⟩, b1⟩ := hp_parts (σ := zsig L xs) (yy := yy) (t := t) h.1
  subst em
  have e := c_parts (σ := zsig L xs) (yy := yy1) (m := m1) (W := m1 138) (t := t) h.2.1.1.1
  rw [zrow_sf] at e
  have f := parts_mr (m := m1) (W := m1 138) (t := t)
  exact ⟨u0, yy1, _, _, h.ask f, yg, b1, e.up (by omega), hc.an (by decide) (by decide) (an_parts (t := t) h.2.2 m1)⟩
theorem lr_output {k : Int32} {x : Int32} (h : LI m) : ∃ u0 yy1 v2 m2, LI m2 ∧ YG yy yy1 ∧ zF (zsig L xs) 11 2021 [.ref 0, .int k, .int x, .ref 146] (zS1, m, yy) (.inl (some (.int u0))) (zS1, m, yy1) ∧ zF (zsig L xs) 19 1883 [.ref 137, .int k, .int x] (zS1, m, yy1) (.inl (some (.int v2))) (zS1, m2, yy1) ∧ HV u0 yy1 (m2 137 0) v2 := by
  obtain ⟨u0, m1, yy1, -, yg, ⟨em, hc⟩, b1⟩ := hp_output (σ := zsig L xs) (yy := yy) (k := k) (x := x) h.1
  subst em
  have e := c_output (σ := zsig L xs) (yy := yy1) (m := m1) (W := m1 138) (k := k) (x := x) h.2.1.1.1
  rw [zrow_sf] at e
  have f := output_mr (m := m1) (W := m1 138) (k := k) (x := x)
  exact ⟨u0, yy1, _, _, h.ask f, yg, b1, e.up (by omega), hc.an (by decide) (by decide) (an_output (k := k) (x := x) h.2.2 m1)⟩
theorem lr_log {k : Int32} {x : Int32} (h : LI m) : ∃ u0 yy1 v2 m2, LI m2 ∧ YG yy yy1 ∧ zF (zsig L xs) 11 2022 [.ref 0, .int k, .int x, .ref 146] (zS1, m, yy) (.inl (some (.int u0))) (zS1, m, yy1) ∧ zF (zsig L xs) 19 1884 [.ref 137, .int k, .int x] (zS1, m, yy1) (.inl (some (.int v2))) (zS1, m2, yy1) ∧ HV u0 yy1 (m2 137 0) v2 := by
  obtain ⟨u0, m1, yy1, -, yg, ⟨em, hc⟩, b1⟩ := hp_log (σ := zsig L xs) (yy := yy) (k := k) (x := x) h.1
  subst em
  have e := c_log (σ := zsig L xs) (yy := yy1) (m := m1) (W := m1 138) (k := k) (x := x) h.2.1.1.1
  rw [zrow_sf] at e
  have f := log_mr (m := m1) (W := m1 138) (k := k) (x := x)
  exact ⟨u0, yy1, _, _, h.ask f, yg, b1, e.up (by omega), hc.an (by decide) (by decide) (an_log (k := k) (x := x) h.2.2 h.1.1.1 m1)⟩
theorem lr_step {t : Int32} (h : LI m) : ∃ u0 m1 yy1 v2 m2, LI m2 ∧ YG yy yy1 ∧ zF (zsig L xs) 11 2010 [.ref 0, .int t, .ref 146] (zS1, m, yy) (.inl (some (.int u0))) (zS1, m1, yy1) ∧ zF (zsig L xs) 19 1864 [.ref 137, .int t] (zS1, m1, yy1) (.inl (some (.int v2))) (zS1, m2, yy1) ∧ HV u0 yy1 (m2 137 0) v2 := by
  obtain ⟨u0, m1, yy1, ⟨xi, xf⟩, yg, ⟨em, hc⟩, b1⟩ := hp_step (σ := zsig L xs) (yy := yy) (t := t) h.1
  have e8 : m1 138 = m 138 := funext (fun l => xf 138 l (by omega))
  have h1 : MI m1 := h.2.1.fi (fun i l hi => xf i l (by omega))
  have a := an_step (M := m1) (t := t) h.2.2 h.1
  unfold CH at a
  rw [← em] at a
  have e := c_step (σ := zsig L xs) (yy := yy1) (m := m1) (W := m1 138) (t := t) h1.1.1
  rw [zrow_sf, e8] at e
  have f := step_q (m := m1) (W := m 138) (t := t) h.2.1.1
  exact ⟨u0, m1, yy1, _, _, h.go xi a.2.2.2.2 f a.2.1 a.2.2.1 a.2.2.2.1, yg, b1, e.up (by omega), hc.an (by decide) (by decide) a.1⟩
theorem lr_run {n : Int32} (h : LI m) : ∃ u0 m1 yy1 v2 m2, LI m2 ∧ YG yy yy1 ∧ zF (zsig L xs) 11 2011 [.ref 0, .int n, .ref 146] (zS1, m, yy) (.inl (some (.int u0))) (zS1, m1, yy1) ∧ zF (zsig L xs) 19 1866 [.ref 137, .int n] (zS1, m1, yy1) (.inl (some (.int v2))) (zS1, m2, yy1) ∧ HV u0 yy1 (m2 137 0) v2 := by
  obtain ⟨u0, m1, yy1, ⟨xi, xf⟩, yg, ⟨em, hc⟩, b1⟩ := hp_run (σ := zsig L xs) (yy := yy) (n := n) h.1
  have e8 : m1 138 = m 138 := funext (fun l => xf 138 l (by omega))
  have h1 : MI m1 := h.2.1.fi (fun i l hi => xf i l (by omega))
  have a := an_run (M := m1) (n := n) h.2.2 h.1
  unfold CH at a
  rw [← em] at a
  have e := c_run (σ := zsig L xs) (yy := yy1) (m := m1) (W := m1 138) (n := n) h1.1.1 h1.1.2
  rw [zrow_sf, e8] at e
  have f := run_q (m := m1) (W := m 138) (n := n) h.2.1.1
  exact ⟨u0, m1, yy1, _, _, h.go xi a.2.2.2.2 f a.2.1 a.2.2.1 a.2.2.2.1, yg, b1, e.up (by omega), hc.an (by decide) (by decide) a.1⟩
theorem lr_chance {n : Int32} (h : LI m) : ∃ u0 m1 yy1 v2 m2, LI m2 ∧ YG yy yy1 ∧ zF (zsig L xs) 11 2012 [.ref 0, .int n, .ref 146] (zS1, m, yy) (.inl (some (.int u0))) (zS1, m1, yy1) ∧ zF (zsig L xs) 19 1867 [.ref 137, .int n] (zS1, m1, yy1) (.inl (some (.int v2))) (zS1, m2, yy1) ∧ HV u0 yy1 (m2 137 0) v2 := by
  obtain ⟨u0, m1, yy1, ⟨xi, xf⟩, yg, ⟨em, hc⟩, b1⟩ := hp_chance (σ := zsig L xs) (yy := yy) (n := n) h.1
  have e8 : m1 138 = m 138 := funext (fun l => xf 138 l (by omega))
  have h1 : MI m1 := h.2.1.fi (fun i l hi => xf i l (by omega))
  have a := an_chance (M := m1) (n := n) h.2.2 h.1
  unfold CH at a
  rw [← em] at a
  have e := c_chance (σ := zsig L xs) (yy := yy1) (m := m1) (W := m1 138) (n := n) h1.1.1 h1.1.2
  rw [zrow_sf, e8] at e
  have f := chance_q (m := m1) (W := m 138) (n := n) h.2.1.1
  exact ⟨u0, m1, yy1, _, _, h.go xi a.2.2.2.2 f a.2.1 a.2.2.1 a.2.2.2.1, yg, b1, e.up (by omega), hc.an (by decide) (by decide) a.1⟩
theorem lr_poke {w : Int32} {v : Int32} (h : LI m) : ∃ u0 m1 yy1 v2 m2, LI m2 ∧ YG yy yy1 ∧ zF (zsig L xs) 11 2013 [.ref 0, .int w, .int v, .ref 146] (zS1, m, yy) (.inl (some (.int u0))) (zS1, m1, yy1) ∧ zF (zsig L xs) 19 1868 [.ref 137, .int w, .int v] (zS1, m1, yy1) (.inl (some (.int v2))) (zS1, m2, yy1) ∧ HV u0 yy1 (m2 137 0) v2 := by
  obtain ⟨u0, m1, yy1, ⟨xi, xf⟩, yg, ⟨em, hc⟩, b1⟩ := hp_poke (σ := zsig L xs) (yy := yy) (w := w) (v := v) h.1
  have e8 : m1 138 = m 138 := funext (fun l => xf 138 l (by omega))
  have h1 : MI m1 := h.2.1.fi (fun i l hi => xf i l (by omega))
  have a := an_poke (M := m1) (w := w) (v := v) h.2.2 h.1
  unfold CH at a
  rw [← em] at a
  have e := c_poke (σ := zsig L xs) (yy := yy1) (m := m1) (W := m1 138) (w := w) (v := v) h1.1.1
  rw [zrow_sf, e8] at e
  have f := poke_q (m := m1) (W := m 138) (w := w) (v := v) h.2.1.1
  exact ⟨u0, m1, yy1, _, _, h.go xi a.2.2.2.2 f a.2.1 a.2.2.1 a.2.2.2.1, yg, b1, e.up (by omega), hc.an (by decide) (by decide) a.1⟩
theorem lr_tune {x : Int32} {n : Int32} (h : LI m) : ∃ u0 m1 yy1 v2 m2, LI m2 ∧ YG yy yy1 ∧ zF (zsig L xs) 11 2014 [.ref 0, .int x, .int n, .ref 146] (zS1, m, yy) (.inl (some (.int u0))) (zS1, m1, yy1) ∧ zF (zsig L xs) 19 1869 [.ref 137, .int x, .int n] (zS1, m1, yy1) (.inl (some (.int v2))) (zS1, m2, yy1) ∧ HV u0 yy1 (m2 137 0) v2 := by
  obtain ⟨u0, m1, yy1, ⟨xi, xf⟩, yg, ⟨em, hc⟩, b1⟩ := hp_tune (σ := zsig L xs) (yy := yy) (x := x) (n := n) zsig_S h.1
  have e8 : m1 138 = m 138 := funext (fun l => xf 138 l (by omega))
  have h1 : MI m1 := h.2.1.fi (fun i l hi => xf i l (by omega))
  have a := an_tune (M := m1) (x := x) (n := n) h.2.2
  unfold CH at a
  rw [← em] at a
  have e := c_tune (σ := zsig L xs) (yy := yy1) (m := m1) (W := m1 138) (x := x) (n := n) 
  rw [zrow_sf, e8] at e
  have f := tune_q (m := m1) (W := m 138) (x := x) (n := n) h.2.1.1
  exact ⟨u0, m1, yy1, _, _, h.go xi a.2.2.2.2 f a.2.1 a.2.2.1 a.2.2.2.1, yg, b1, e.up (by omega), hc.an (by decide) (by decide) a.1⟩
theorem lr_due {t : Int32} (h : LI m) : ∃ u0 m1 yy1 v2 m2, LI m2 ∧ YG yy yy1 ∧ zF (zsig L xs) 11 2015 [.ref 0, .int t, .ref 146] (zS1, m, yy) (.inl (some (.int u0))) (zS1, m1, yy1) ∧ zF (zsig L xs) 19 1890 [.ref 137, .int t] (zS1, m1, yy1) (.inl (some (.int v2))) (zS1, m2, yy1) ∧ HV u0 yy1 (m2 137 0) v2 := by
  obtain ⟨u0, m1, yy1, ⟨xi, xf⟩, yg, ⟨em, hc⟩, b1⟩ := hp_due (σ := zsig L xs) (yy := yy) (t := t) h.1
  have e8 : m1 138 = m 138 := funext (fun l => xf 138 l (by omega))
  have h1 : MI m1 := h.2.1.fi (fun i l hi => xf i l (by omega))
  have a := an_due (M := m1) (t := t) h.2.2 h.1
  unfold CH at a
  rw [← em] at a
  have e := c_due (σ := zsig L xs) (yy := yy1) (m := m1) (W := m1 138) (t := t) h1.1.1 h1.1.2
  rw [zrow_sf, e8] at e
  have f := due_q (m := m1) (W := m 138) (t := t) h.2.1.1
  exact ⟨u0, m1, yy1, _, _, h.go xi a.2.2.2.2 f a.2.1 a.2.2.1 a.2.2.2.1, yg, b1, e.up (by omega), hc.an (by decide) (by decide) a.1⟩
theorem lr_quickest {x : Int32} (h : LI m) : ∃ u0 m1 yy1 v2 m2, LI m2 ∧ YG yy yy1 ∧ zF (zsig L xs) 11 2016 [.ref 0, .int x, .ref 146] (zS1, m, yy) (.inl (some (.int u0))) (zS1, m1, yy1) ∧ zF (zsig L xs) 19 1892 [.ref 137, .int x] (zS1, m1, yy1) (.inl (some (.int v2))) (zS1, m2, yy1) ∧ HV u0 yy1 (m2 137 0) v2 := by
  obtain ⟨u0, m1, yy1, ⟨xi, xf⟩, yg, ⟨em, hc⟩, b1⟩ := hp_quickest (σ := zsig L xs) (yy := yy) (x := x) h.1
  have e8 : m1 138 = m 138 := funext (fun l => xf 138 l (by omega))
  have h1 : MI m1 := h.2.1.fi (fun i l hi => xf i l (by omega))
  have a := an_quickest (M := m1) (x := x) h.2.2 h.1
  unfold CH at a
  rw [← em] at a
  have e := c_quickest (σ := zsig L xs) (yy := yy1) (m := m1) (W := m1 138) (x := x) h1.1.1 h1.1.2
  rw [zrow_sf, e8] at e
  have f := quickest_q (m := m1) (W := m 138) (x := x) h.2.1.1
  exact ⟨u0, m1, yy1, _, _, h.go xi a.2.2.2.2 f a.2.1 a.2.2.1 a.2.2.2.1, yg, b1, e.up (by omega), hc.an (by decide) (by decide) a.1⟩
theorem lr_machine (h : LI m) : ∃ u0 m1 yy1 v2 m2, LI m2 ∧ YG yy yy1 ∧ zF (zsig L xs) 11 2000 [.ref 0, .ref 146] (zS1, m, yy) (.inl (some (.int u0))) (zS1, m1, yy1) ∧ zF (zsig L xs) 19 1862 [.ref 137] (zS1, m1, yy1) (.inl (some (.int v2))) (zS1, m2, yy1) ∧ HV u0 yy1 (m2 137 0) v2 := by
  obtain ⟨u0, m1, yy1, ⟨xi, xf, -⟩, yg, ⟨em, hc⟩, b1⟩ := hp_machine (σ := zsig L xs) (yy := yy) zsig_S h.1
  have e8 : m1 138 = m 138 := funext (fun l => xf 138 l (by omega))
  have h1 : MI m1 := h.2.1.fg xf
  obtain ⟨b, hb, h10⟩ := h1.2.2.2.1
  have a := machine_lr h.2.2 h.1 h.1.2.2.2.1.1 h.1.2.2.2.1.2 em
  have e := c_machine (σ := zsig L xs) (yy := yy1) (m := m1) (W := m1 138) (T := mv m1 137 7) (b := b) h1.2.2.1.1 h1.2.2.1.2 h10 h1.1.1
  rw [zrow_sf] at e
  have g := machine_o h1
  rw [e8] at e g
  exact ⟨u0, m1, yy1, _, _, ⟨xi.lo g.1.2.up, g.1.1.up, a.2⟩, yg, b1, e.up (by omega), hc.an (by decide) (by decide) a.1⟩
theorem lr_text {t : Int32} (h : LI m) : ∃ u0 m1 yy1 v2 m2, LI m2 ∧ YG yy yy1 ∧ zF (zsig L xs) 11 2023 [.ref 0, .int t, .ref 146] (zS1, m, yy) (.inl (some (.int u0))) (zS1, m1, yy1) ∧ zF (zsig L xs) 19 1910 [.ref 137, .int t] (zS1, m1, yy1) (.inl (some (.int v2))) (zS1, m2, yy1) := by
  obtain ⟨u0, m1, yy1, ⟨xi, xf⟩, yg, w, b1⟩ := hp_text (σ := zsig L xs) (yy := yy) (t := t) h.1
  have h1 : MI m1 := h.2.1.fg xf.g
  have e8 : m1 138 = m 138 := funext (fun l => xf 138 l (by omega))
  obtain ⟨u, M, f, e⟩ := c_text (σ := zsig L xs) (yy := yy1) (m := m1) (W := m1 138) (t := t) h1.1.1 h1.2.2.2.2.1 h1.2.2.2.2.2
  rw [zrow_sf] at e
  have g := text_o h1 f
  refine ⟨u0, m1, yy1, _, _, ⟨xi.lo g.2.up, g.1.up, ?_⟩, yg, b1, e.up (by omega)⟩
  refine h.2.2.of (fun i l hi => ?_)
  by_cases q8 : i = 138
  · subst q8
    exact (congrFun (if_pos rfl) l).trans (congrFun e8 l)
  · refine (congrFun (if_neg q8) l).trans ?_
    by_cases q7 : i = 137
    · subst q7
      exact (f.2.1 l (by omega) (by omega)).trans (w.1 137 l (by omega) (by omega))
    · rw [f.1 i q7 (by omega)]
      exact w.1 i l (by omega) (by omega)
theorem lr_fault (h : LI m) : ∃ v1 v2 m2, LI m2 ∧ zF (zsig L xs) 19 1605 [.ref 0] (zS1, m, yy) (.inl (some (.int v1))) (zS1, m, yy) ∧ zF (zsig L xs) 19 1843 [.ref 137] (zS1, m, yy) (.inl (some (.int v2))) (zS1, m2, yy) ∧ v1 = v2 := by
  have e := c_fault (σ := zsig L xs) (yy := yy) (m := m) (W := m 138)
  rw [zrow_sf] at e
  exact ⟨_, _, _, h.ask fault_mr, (ec_fault (σ := zsig L xs) (yy := yy) (m := m)).up (by omega), e.up (by omega), an_fault h.2.2 rfl⟩
theorem lr_count {x : Int32} (h : LI m) : ∃ v1 v2 m2, LI m2 ∧ zF (zsig L xs) 19 1637 [.ref 0, .int x] (zS1, m, yy) (.inl (some (.int v1))) (zS1, m, yy) ∧ zF (zsig L xs) 19 1888 [.ref 137, .int x] (zS1, m, yy) (.inl (some (.int v2))) (zS1, m2, yy) ∧ v1 = v2 := by
  have e := c_count (σ := zsig L xs) (yy := yy) (m := m) (W := m 138) (x := x) h.2.1.1.1
  rw [zrow_sf] at e
  exact ⟨_, _, _, h.ask count_mr, (ec_count (σ := zsig L xs) (yy := yy) (m := m) (x := x) h.1.1.1).up (by omega), e.up (by omega), an_count h.2.2 m⟩
theorem lr_octet {k : Int32} (h : LI m) : ∃ v1 v2 m2, LI m2 ∧ zF (zsig L xs) 19 1634 [.ref 0, .int k] (zS1, m, yy) (.inl (some (.int v1))) (zS1, m, yy) ∧ zF (zsig L xs) 19 1911 [.ref 137, .int k] (zS1, m, yy) (.inl (some (.int v2))) (zS1, m2, yy) := by
  have e := c_octet (σ := zsig L xs) (yy := yy) (m := m) (W := m 138) (k := k) (w := mv m 137 16) h.2.1.2.2.2.2.1 h.2.1.2.2.2.2.2
  rw [zrow_sf] at e
  exact ⟨_, _, _, h.ask octet_mr, (ec_octet (σ := zsig L xs) (yy := yy) (m := m) (k := k)).up (by omega), e.up (by omega)⟩
theorem lr_seed {n : Int32} (h : LI m) : ∃ v1 m1 v2 m2, LI m2 ∧ zF (zsig L xs) 19 1621 [.ref 0, .int n] (zS1, m, yy) (.inl (some (.int v1))) (zS1, m1, yy) ∧ zF (zsig L xs) 19 1870 [.ref 137, .int n] (zS1, m1, yy) (.inl (some (.int v2))) (zS1, m2, yy) ∧ v1 = v2 := by
  have x := seed_x (n := n) h.1
  have e8 : (e_seed m n).2 138 = m 138 := funext (fun l => x.2 138 l (by omega))
  have a := an_seed (M := (e_seed m n).2) (n := n) h.2.2
  have e := c_seed (σ := zsig L xs) (yy := yy) (m := (e_seed m n).2) (W := (e_seed m n).2 138) (n := n)
  rw [zrow_sf, e8] at e
  have f := seed_q (m := (e_seed m n).2) (W := m 138) (n := n) h.2.1.1
  exact ⟨_, _, _, _, h.go x.1 a.2.2.2.2 f a.2.1 a.2.2.1 a.2.2.2.1, (ec_seed (σ := zsig L xs) (yy := yy) (m := m) (n := n)).up (by omega), e.up (by omega), a.1⟩
theorem lr_plain (h : LI m) : ∃ v1 m1 v2 m2, LI m2 ∧ zF (zsig L xs) 19 1624 [.ref 0] (zS1, m, yy) (.inl (some (.int v1))) (zS1, m1, yy) ∧ zF (zsig L xs) 19 1893 [.ref 137] (zS1, m1, yy) (.inl (some (.int v2))) (zS1, m2, yy) ∧ v1 = v2 := by
  have x := plain_x h.1
  have e8 : (e_plain m).2 138 = m 138 := funext (fun l => x.2 138 l (by omega))
  have h1 : MI (e_plain m).2 := h.2.1.fg x.2.g
  have a := an_plain (M := (e_plain m).2) h.2.2 h.1
  have e := c_plain (σ := zsig L xs) (yy := yy) (m := (e_plain m).2) (W := (e_plain m).2 138) h1.1.1 h1.1.2
  rw [zrow_sf, e8] at e
  have f := plain_q (m := (e_plain m).2) (W := m 138) h.2.1.1
  exact ⟨_, _, _, _, h.go x.1 a.2.2.2.2 f a.2.1 a.2.2.1 a.2.2.2.1, (ec_plain (σ := zsig L xs) (yy := yy) (m := m) h.1.1.1 h.1.1.2 h.1.2.1.1 h.1.2.1.2).up (by omega), e.up (by omega), a.1⟩
theorem lr_back (h : LI m) : ∃ v1 m1 v2 m2, LI m2 ∧ zF (zsig L xs) 19 1636 [.ref 0] (zS1, m, yy) (.inl (some (.int v1))) (zS1, m1, yy) ∧ zF (zsig L xs) 19 1808 [.ref 137] (zS1, m1, yy) (.inl (some (.int v2))) (zS1, m2, yy) ∧ v1 = v2 := by
  have x := back_x h.1
  have e8 : (e_back m).2 138 = m 138 := funext (fun l => x.2 138 l (by omega))
  have h1 : MI (e_back m).2 := h.2.1.fg x.2.g
  have a := an_back (M := (e_back m).2) h.2.2 h.1 (x.2 137 4 (by omega)) (funext (fun l => x.2 139 l (by omega)))
  have e := c_back (σ := zsig L xs) (yy := yy) (m := (e_back m).2) (W := (e_back m).2 138)
  rw [zrow_sf, e8] at e
  have f : QK (e_back m).2 (q_back (e_back m).2 (m 138)) := by
    have f0 : MR (e_back m).2 (zm2 (e_back m).2 137 0 (Int32.ofNat 0)) := (MR.rf (e_back m).2).p0
    refine ⟨?_, ?_⟩
    · exact ⟨a.2.2.1.W, a.2.2.1.2.1⟩
    · unfold q_back
      exact cndi (fun q : Int32 × (Nat → Int32) × (Nat → Nat → Int32) => MR (e_back m).2 q.2.2) f0 f0
  exact ⟨_, _, _, _, h.go x.1 a.2.2.2.2 f a.2.1 a.2.2.1 a.2.2.2.1, (ec_back (σ := zsig L xs) (yy := yy) (m := m) h.1.2.2.1.1 h.1.2.2.1.2).up (by omega), e.up (by omega), a.1⟩
theorem lr_image (h : LI m) : ∃ m1 m2, LI m2 ∧ zF (zsig L xs) 19 1635 [.ref 0] (zS1, m, yy) (.inl none) (zS1, m1, yy) ∧ zF (zsig L xs) 19 1807 [.ref 137] (zS1, m1, yy) (.inl none) (zS1, m2, yy) := by
  have x := image_x h.1
  have e8 : e_image m 138 = m 138 := funext (fun l => x.2.1 138 l (by omega))
  have h1 : MI (e_image m) := h.2.1.fi (fun i l hi => x.2.1 i l (by omega))
  have a := image_lr (M := e_image m) h.2.2 h.1 (fun _ => rfl)
  have e := c_image (σ := zsig L xs) (yy := yy) (m := e_image m) (W := e_image m 138)
  have g := image_o h1
  rw [zrow_sf, e8] at e
  rw [e8] at g
  exact ⟨_, _, ⟨x.1.lo g.2.up, g.1.up, a⟩, (ec_image (σ := zsig L xs) (yy := yy) (m := m) h.1.1.1 h.1.1.2).up (by omega), e.up (by omega)⟩
theorem lr_feed {a b c e f : Int32} (h : LI m) : ∃ v1 m1 v2 m2, LI m2 ∧ zF (zsig L xs) 19 1601 [.ref 0, .int a, .int b, .int c, .int e, .int f] (zS1, m, yy) (.inl (some (.int v1))) (zS1, m1, yy) ∧ zF (zsig L xs) 19 1841 [.ref 137, .int a, .int b, .int c, .int e, .int f] (zS1, m1, yy) (.inl (some (.int v2))) (zS1, m2, yy) := by
  have h0 := h.1.2.2.2.1
  have x := feed_x (a := a) (b := b) (c := c) (e := e) (f := f) h.1 h0.2
  have e8 : (e_feed m a b c e f (mv m 0 5)).2 138 = m 138 := funext (fun l => x.2 138 l (by omega))
  have h1 : MI (e_feed m a b c e f (mv m 0 5)).2 := h.2.1.fg x.2
  have hT : (e_feed m a b c e f (mv m 0 5)).2 137 7 = Int32.ofNat (mv m 0 5) := (x.2 137 7 (by omega)).trans (h.2.2.2.2.2.1.symm.trans h0.1)
  have aa := feed_lr (M := (e_feed m a b c e f (mv m 0 5)).2) (a := a) (b := b) (c := c) (e := e) (f := f) h.2.2 h.1 rfl rfl
  have ev := c_feed (σ := zsig L xs) (yy := yy) (m := (e_feed m a b c e f (mv m 0 5)).2) (W := (e_feed m a b c e f (mv m 0 5)).2 138) (a := a) (b := b) (c := c) (e := e) (f := f) (T := mv m 0 5) hT h0.2
  have g := feed_o (a := a) (b := b) (c := c) (e := e) (f := f) (T := mv m 0 5) h1 h0.2
  rw [zrow_sf, e8] at ev
  rw [e8] at g
  exact ⟨_, _, _, _, ⟨x.1.lo g.2.up, g.1.up, aa⟩, (ec_feed (σ := zsig L xs) (yy := yy) (m := m) (a := a) (b := b) (c := c) (e := e) (f := f) (n := mv m 0 5) h0.1 h0.2).up (by omega), ev.up (by omega)⟩
theorem lr_end {n : Int32} (h : LI m) : ∃ v1 m1 v2 m2, LI m2 ∧ zF (zsig L xs) 19 1603 [.ref 0, .int n] (zS1, m, yy) (.inl (some (.int v1))) (zS1, m1, yy) ∧ zF (zsig L xs) 19 1842 [.ref 137, .int n] (zS1, m1, yy) (.inl (some (.int v2))) (zS1, m2, yy) := by
  have x := end_x (n := n) h.1
  have e8 : (e_end m n).2 138 = m 138 := funext (fun l => x.2 138 l (by omega))
  have h1 : MI (e_end m n).2 := h.2.1.fg x.2
  have eo : ∀ i l, (i ≠ 0 ∨ l ≠ 5) → (e_end m n).2 i l = m i l := by
    intro i l hi
    unfold e_end
    exact cndi (fun q : Int32 × (Nat → Nat → Int32) => q.2 i l = m i l) rfl (cndi (fun q : Int32 × (Nat → Nat → Int32) => q.2 i l = m i l) (zx_o _ _ (by omega)) rfl)
  have t7 := h.T
  have aa := end_lr (m1 := (e_end m n).2) (n := n) h.2.2 eo rfl (by rw [t7.1, zoN (by omega)]; omega)
  have ev := c_end (σ := zsig L xs) (yy := yy) (m := (e_end m n).2) (W := (e_end m n).2 138) (n := n)
  have g := end_o (n := n) h1
  rw [zrow_sf, e8] at ev
  rw [e8] at g
  exact ⟨_, _, _, _, ⟨x.1.lo g.2.up, g.1.up, aa⟩, (ec_end (σ := zsig L xs) (yy := yy) (m := m) (n := n)).up (by omega), ev.up (by omega)⟩
theorem serial_f {k : Int32} (h : XI m) : ∀ i l, i < 131 ∨ 137 ≤ i → (e_serial m k (mv m 1 5)).2 i l = m i l := by
  intro i l hi
  unfold e_serial
  refine cnd4 (fun q : Int32 × (Nat → Nat → Int32) => q.2 i l = m i l) (fun _ => rfl) (fun _ => ?_)
  have hj : OJ (zm2 (zm2 (zm2 m 131 8 (Int32.ofNat 1)) 131 9 (Int32.ofNat 0)) 131 7 (Int32.ofNat 0)) (mv m 1 5) := ((h.j.far (by omega) (by omega)).far (by omega) (by omega)).far (by omega) (by omega)
  obtain ⟨-, a2⟩ := searchL_o h.1.1.c4 (mv m 1 5) 0 _ (by omega) hj
  exact (a2 i l hi).trans (by rw [zx_ne _ _ _ (by omega), zx_ne _ _ _ (by omega), zx_ne _ _ _ (by omega)])
theorem lr_serial {k : Int32} (h : LI m) : ∃ v1 m1 v2 m2, LI m2 ∧ zF (zsig L xs) 19 1630 [.ref 0, .int k] (zS1, m, yy) (.inl (some (.int v1))) (zS1, m1, yy) ∧ zF (zsig L xs) 19 1906 [.ref 137, .int k] (zS1, m1, yy) (.inl (some (.int v2))) (zS1, m2, yy) := by
  have x := serial_x (k := k) h.1
  have sf := serial_f (k := k) h.1
  have e8 : (e_serial m k (mv m 1 5)).2 138 = m 138 := funext (fun l => x.2 138 l (by omega))
  have h1 : MI (e_serial m k (mv m 1 5)).2 := h.2.1.fg x.2.g
  have ev := c_serial (σ := zsig L xs) (yy := yy) (m := (e_serial m k (mv m 1 5)).2) (W := (e_serial m k (mv m 1 5)).2 138) (v := k) h1.1.1
  have g := serial_o (v := k) h1
  have s7 := serial_137 (m := (e_serial m k (mv m 1 5)).2) (W := (e_serial m k (mv m 1 5)).2 138) (v := k) h1.1.1
  have sr := serial_fr (m := (e_serial m k (mv m 1 5)).2) (W := (e_serial m k (mv m 1 5)).2 138) (v := k) h1.1.1
  rw [zrow_sf, e8] at ev
  rw [e8] at g s7 sr
  refine ⟨_, _, _, _, ⟨x.1.lo g.2.up, g.1.up, ?_⟩, (ec_serial (σ := zsig L xs) (yy := yy) (m := m) (k := k) h.1.1.1.c4 h.1.j).up (by omega), ev.up (by omega)⟩
  refine h.2.2.of (fun i l hi => ?_)
  by_cases q8 : i = 138
  · subst q8
    exact congrFun (if_pos rfl) l
  · refine (congrFun (if_neg q8) l).trans ?_
    by_cases q7 : i = 137
    · subst q7
      exact (s7 l (by omega)).trans (sf 137 l (by omega))
    · rw [sr i q7 (by omega) (by omega)]
      exact sf i l (by omega)
end ZRR
