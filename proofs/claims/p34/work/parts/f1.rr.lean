/-! what a call of the reference comes to -/
def MI (m : Nat → Nat → Int32) : Prop := MJ m (m 138)
theorem zrow_sf (m : Nat → Nat → Int32) : zrow m 138 (m 138) = m := by
  funext i
  by_cases h : i = 138
  · subst h
    exact if_pos rfl
  · exact if_neg h
section ZRR
variable {σ : Nat → Nat × (Nat → Int32)} {yy : (Nat → Nat → Int64) × Bool × Nat × Nat} {m m' : Nat → Nat → Int32} {W' : Nat → Int32}
theorem MJ.up (h : MJ m' W') : MI (zrow m' 138 W') := ⟨h.1, h.2.1, h.2.2.1, h.2.2.2.1, h.2.2.2.2⟩
theorem LO.up (h : LO m m') : LO m (zrow m' 138 W') := fun i hi => (zrow_ne (by omega)).trans (h i hi)
theorem back_q (hj : MI m) : QK m (q_back m (m 138)) := by
  have f : MR m (zm2 m 137 0 (Int32.ofNat 0)) := (MR.rf m).p0
  unfold q_back
  refine cndh (QK m) (fun h4 => ?_) (fun _ => QK.mk hj.1 f)
  have h5 : ¬ m 137 4 = 0 := of_decide_eq_true h4
  have hw : WLT (m 139) := by
    rcases hj.2.1 with e | e
    · exact absurd e h5
    · exact e
  exact QK.mk (hw.of (fun k hk => crow_of _ _ k hk)) f
theorem rr_fault (h : MI m) : ∃ u0 m2, (MI m2 ∧ LO m m2 ∧ (m2 137 7 = m 137 7 ∧ m2 137 4 = m 137 4)) ∧ zF σ 19 1843 [.ref 137] (zS1, m, yy) (.inl (some (.int u0))) (zS1, m2, yy) := by
  have e := c_fault (σ := σ) (yy := yy) (m := m) (W := m 138) 
  rw [zrow_sf] at e
  have f := fault_mr (m := m)
  exact ⟨_, _, ⟨(h.mr f h.1).up, f.lo.up, f.2 7 (by omega) (by omega), f.2 4 (by omega) (by omega)⟩, e.up (by omega)⟩
theorem rr_thread {t : Int32} {x : Int32} (h : MI m) : ∃ u0 m2, (MI m2 ∧ LO m m2 ∧ (m2 137 7 = m 137 7 ∧ m2 137 4 = m 137 4)) ∧ zF σ 19 1872 [.ref 137, .int t, .int x] (zS1, m, yy) (.inl (some (.int u0))) (zS1, m2, yy) := by
  have e := c_thread (σ := σ) (yy := yy) (m := m) (W := m 138) (t := t) (x := x) h.1.1
  rw [zrow_sf] at e
  have f := thread_mr (m := m) (W := m 138) (t := t) (x := x)
  exact ⟨_, _, ⟨(h.mr f h.1).up, f.lo.up, f.2 7 (by omega) (by omega), f.2 4 (by omega) (by omega)⟩, e.up (by omega)⟩
theorem rr_leftOut {t : Int32} {k : Int32} (h : MI m) : ∃ u0 m2, (MI m2 ∧ LO m m2 ∧ (m2 137 7 = m 137 7 ∧ m2 137 4 = m 137 4)) ∧ zF σ 19 1873 [.ref 137, .int t, .int k] (zS1, m, yy) (.inl (some (.int u0))) (zS1, m2, yy) := by
  have e := c_leftOut (σ := σ) (yy := yy) (m := m) (W := m 138) (t := t) (k := k) h.1.1
  rw [zrow_sf] at e
  have f := leftOut_mr (m := m) (W := m 138) (t := t) (k := k)
  exact ⟨_, _, ⟨(h.mr f h.1).up, f.lo.up, f.2 7 (by omega) (by omega), f.2 4 (by omega) (by omega)⟩, e.up (by omega)⟩
theorem rr_blocks {t : Int32} {x : Int32} (h : MI m) : ∃ u0 m2, (MI m2 ∧ LO m m2 ∧ (m2 137 7 = m 137 7 ∧ m2 137 4 = m 137 4)) ∧ zF σ 19 1874 [.ref 137, .int t, .int x] (zS1, m, yy) (.inl (some (.int u0))) (zS1, m2, yy) := by
  have e := c_blocks (σ := σ) (yy := yy) (m := m) (W := m 138) (t := t) (x := x) h.1.1
  rw [zrow_sf] at e
  have f := blocks_mr (m := m) (W := m 138) (t := t) (x := x)
  exact ⟨_, _, ⟨(h.mr f h.1).up, f.lo.up, f.2 7 (by omega) (by omega), f.2 4 (by omega) (by omega)⟩, e.up (by omega)⟩
theorem rr_fell {t : Int32} {y : Int32} (h : MI m) : ∃ u0 m2, (MI m2 ∧ LO m m2 ∧ (m2 137 7 = m 137 7 ∧ m2 137 4 = m 137 4)) ∧ zF σ 19 1875 [.ref 137, .int t, .int y] (zS1, m, yy) (.inl (some (.int u0))) (zS1, m2, yy) := by
  have e := c_fell (σ := σ) (yy := yy) (m := m) (W := m 138) (t := t) (y := y) h.1.1
  rw [zrow_sf] at e
  have f := fell_mr (m := m) (W := m 138) (t := t) (y := y)
  exact ⟨_, _, ⟨(h.mr f h.1).up, f.lo.up, f.2 7 (by omega) (by omega), f.2 4 (by omega) (by omega)⟩, e.up (by omega)⟩
theorem rr_word {w : Int32} (h : MI m) : ∃ u0 m2, (MI m2 ∧ LO m m2 ∧ (m2 137 7 = m 137 7 ∧ m2 137 4 = m 137 4)) ∧ zF σ 19 1877 [.ref 137, .int w] (zS1, m, yy) (.inl (some (.int u0))) (zS1, m2, yy) := by
  have e := c_word (σ := σ) (yy := yy) (m := m) (W := m 138) (w := w) 
  rw [zrow_sf] at e
  have f := word_mr (m := m) (W := m 138) (w := w)
  exact ⟨_, _, ⟨(h.mr f h.1).up, f.lo.up, f.2 7 (by omega) (by omega), f.2 4 (by omega) (by omega)⟩, e.up (by omega)⟩
theorem rr_sees {t : Int32} {w : Int32} (h : MI m) : ∃ u0 m2, (MI m2 ∧ LO m m2 ∧ (m2 137 7 = m 137 7 ∧ m2 137 4 = m 137 4)) ∧ zF σ 19 1878 [.ref 137, .int t, .int w] (zS1, m, yy) (.inl (some (.int u0))) (zS1, m2, yy) := by
  have e := c_sees (σ := σ) (yy := yy) (m := m) (W := m 138) (t := t) (w := w) h.1.1
  rw [zrow_sf] at e
  have f := sees_mr (m := m) (W := m 138) (t := t) (w := w)
  exact ⟨_, _, ⟨(h.mr f h.1).up, f.lo.up, f.2 7 (by omega) (by omega), f.2 4 (by omega) (by omega)⟩, e.up (by omega)⟩
theorem rr_lock {l : Int32} {x : Int32} (h : MI m) : ∃ u0 m2, (MI m2 ∧ LO m m2 ∧ (m2 137 7 = m 137 7 ∧ m2 137 4 = m 137 4)) ∧ zF σ 19 1880 [.ref 137, .int l, .int x] (zS1, m, yy) (.inl (some (.int u0))) (zS1, m2, yy) := by
  have e := c_lock (σ := σ) (yy := yy) (m := m) (W := m 138) (l := l) (x := x) h.1.1
  rw [zrow_sf] at e
  have f := lock_mr (m := m) (W := m 138) (l := l) (x := x)
  exact ⟨_, _, ⟨(h.mr f h.1).up, f.lo.up, f.2 7 (by omega) (by omega), f.2 4 (by omega) (by omega)⟩, e.up (by omega)⟩
theorem rr_term {x : Int32} (h : MI m) : ∃ u0 m2, (MI m2 ∧ LO m m2 ∧ (m2 137 7 = m 137 7 ∧ m2 137 4 = m 137 4)) ∧ zF σ 19 1881 [.ref 137, .int x] (zS1, m, yy) (.inl (some (.int u0))) (zS1, m2, yy) := by
  have e := c_term (σ := σ) (yy := yy) (m := m) (W := m 138) (x := x) 
  rw [zrow_sf] at e
  have f := term_mr (m := m) (W := m 138) (x := x)
  exact ⟨_, _, ⟨(h.mr f h.1).up, f.lo.up, f.2 7 (by omega) (by omega), f.2 4 (by omega) (by omega)⟩, e.up (by omega)⟩
theorem rr_deed {t : Int32} {p : Int32} {x : Int32} (h : MI m) : ∃ u0 m2, (MI m2 ∧ LO m m2 ∧ (m2 137 7 = m 137 7 ∧ m2 137 4 = m 137 4)) ∧ zF σ 19 1882 [.ref 137, .int t, .int p, .int x] (zS1, m, yy) (.inl (some (.int u0))) (zS1, m2, yy) := by
  have e := c_deed (σ := σ) (yy := yy) (m := m) (W := m 138) (t := t) (p := p) (x := x) h.1.1
  rw [zrow_sf] at e
  have f := deed_mr (m := m) (W := m 138) (t := t) (p := p) (x := x)
  exact ⟨_, _, ⟨(h.mr f h.1).up, f.lo.up, f.2 7 (by omega) (by omega), f.2 4 (by omega) (by omega)⟩, e.up (by omega)⟩
theorem rr_touches {t : Int32} {x : Int32} (h : MI m) : ∃ u0 m2, (MI m2 ∧ LO m m2 ∧ (m2 137 7 = m 137 7 ∧ m2 137 4 = m 137 4)) ∧ zF σ 19 1895 [.ref 137, .int t, .int x] (zS1, m, yy) (.inl (some (.int u0))) (zS1, m2, yy) := by
  have e := c_touches (σ := σ) (yy := yy) (m := m) (W := m 138) (t := t) (x := x) h.1.1
  rw [zrow_sf] at e
  have f := touches_mr (m := m) (W := m 138) (t := t) (x := x)
  exact ⟨_, _, ⟨(h.mr f h.1).up, f.lo.up, f.2 7 (by omega) (by omega), f.2 4 (by omega) (by omega)⟩, e.up (by omega)⟩
theorem rr_rivals {t : Int32} {u : Int32} (h : MI m) : ∃ u0 m2, (MI m2 ∧ LO m m2 ∧ (m2 137 7 = m 137 7 ∧ m2 137 4 = m 137 4)) ∧ zF σ 19 1896 [.ref 137, .int t, .int u] (zS1, m, yy) (.inl (some (.int u0))) (zS1, m2, yy) := by
  have e := c_rivals (σ := σ) (yy := yy) (m := m) (W := m 138) (t := t) (u := u) h.1.1
  rw [zrow_sf] at e
  have f := rivals_mr (m := m) (W := m 138) (t := t) (u := u)
  exact ⟨_, _, ⟨(h.mr f h.1).up, f.lo.up, f.2 7 (by omega) (by omega), f.2 4 (by omega) (by omega)⟩, e.up (by omega)⟩
theorem rr_nest {t : Int32} (h : MI m) : ∃ u0 m2, (MI m2 ∧ LO m m2 ∧ (m2 137 7 = m 137 7 ∧ m2 137 4 = m 137 4)) ∧ zF σ 19 1898 [.ref 137, .int t] (zS1, m, yy) (.inl (some (.int u0))) (zS1, m2, yy) := by
  have e := c_nest (σ := σ) (yy := yy) (m := m) (W := m 138) (t := t) h.1.1
  rw [zrow_sf] at e
  have f := nest_mr (m := m) (W := m 138) (t := t)
  exact ⟨_, _, ⟨(h.mr f h.1).up, f.lo.up, f.2 7 (by omega) (by omega), f.2 4 (by omega) (by omega)⟩, e.up (by omega)⟩
theorem rr_parts {t : Int32} (h : MI m) : ∃ u0 m2, (MI m2 ∧ LO m m2 ∧ (m2 137 7 = m 137 7 ∧ m2 137 4 = m 137 4)) ∧ zF σ 19 1901 [.ref 137, .int t] (zS1, m, yy) (.inl (some (.int u0))) (zS1, m2, yy) := by
  have e := c_parts (σ := σ) (yy := yy) (m := m) (W := m 138) (t := t) h.1.1
  rw [zrow_sf] at e
  have f := parts_mr (m := m) (W := m 138) (t := t)
  exact ⟨_, _, ⟨(h.mr f h.1).up, f.lo.up, f.2 7 (by omega) (by omega), f.2 4 (by omega) (by omega)⟩, e.up (by omega)⟩
theorem rr_output {k : Int32} {x : Int32} (h : MI m) : ∃ u0 m2, (MI m2 ∧ LO m m2 ∧ (m2 137 7 = m 137 7 ∧ m2 137 4 = m 137 4)) ∧ zF σ 19 1883 [.ref 137, .int k, .int x] (zS1, m, yy) (.inl (some (.int u0))) (zS1, m2, yy) := by
  have e := c_output (σ := σ) (yy := yy) (m := m) (W := m 138) (k := k) (x := x) h.1.1
  rw [zrow_sf] at e
  have f := output_mr (m := m) (W := m 138) (k := k) (x := x)
  exact ⟨_, _, ⟨(h.mr f h.1).up, f.lo.up, f.2 7 (by omega) (by omega), f.2 4 (by omega) (by omega)⟩, e.up (by omega)⟩
theorem rr_log {k : Int32} {x : Int32} (h : MI m) : ∃ u0 m2, (MI m2 ∧ LO m m2 ∧ (m2 137 7 = m 137 7 ∧ m2 137 4 = m 137 4)) ∧ zF σ 19 1884 [.ref 137, .int k, .int x] (zS1, m, yy) (.inl (some (.int u0))) (zS1, m2, yy) := by
  have e := c_log (σ := σ) (yy := yy) (m := m) (W := m 138) (k := k) (x := x) h.1.1
  rw [zrow_sf] at e
  have f := log_mr (m := m) (W := m 138) (k := k) (x := x)
  exact ⟨_, _, ⟨(h.mr f h.1).up, f.lo.up, f.2 7 (by omega) (by omega), f.2 4 (by omega) (by omega)⟩, e.up (by omega)⟩
theorem rr_count {x : Int32} (h : MI m) : ∃ u0 m2, (MI m2 ∧ LO m m2 ∧ (m2 137 7 = m 137 7 ∧ m2 137 4 = m 137 4)) ∧ zF σ 19 1888 [.ref 137, .int x] (zS1, m, yy) (.inl (some (.int u0))) (zS1, m2, yy) := by
  have e := c_count (σ := σ) (yy := yy) (m := m) (W := m 138) (x := x) h.1.1
  rw [zrow_sf] at e
  have f := count_mr (m := m) (W := m 138) (x := x)
  exact ⟨_, _, ⟨(h.mr f h.1).up, f.lo.up, f.2 7 (by omega) (by omega), f.2 4 (by omega) (by omega)⟩, e.up (by omega)⟩
theorem rr_step {t : Int32} (h : MI m) : ∃ u0 m2, (MI m2 ∧ LO m m2 ∧ (m2 137 7 = m 137 7 ∧ m2 137 4 = m 137 4)) ∧ zF σ 19 1864 [.ref 137, .int t] (zS1, m, yy) (.inl (some (.int u0))) (zS1, m2, yy) := by
  have e := c_step (σ := σ) (yy := yy) (m := m) (W := m 138) (t := t) h.1.1
  rw [zrow_sf] at e
  have f := step_q (m := m) (W := m 138) (t := t) h.1
  exact ⟨_, _, ⟨(h.mr f.2 f.1).up, f.2.lo.up, f.2.2 7 (by omega) (by omega), f.2.2 4 (by omega) (by omega)⟩, e.up (by omega)⟩
theorem rr_run {n : Int32} (h : MI m) : ∃ u0 m2, (MI m2 ∧ LO m m2 ∧ (m2 137 7 = m 137 7 ∧ m2 137 4 = m 137 4)) ∧ zF σ 19 1866 [.ref 137, .int n] (zS1, m, yy) (.inl (some (.int u0))) (zS1, m2, yy) := by
  have e := c_run (σ := σ) (yy := yy) (m := m) (W := m 138) (n := n) h.1.1 h.1.2
  rw [zrow_sf] at e
  have f := run_q (m := m) (W := m 138) (n := n) h.1
  exact ⟨_, _, ⟨(h.mr f.2 f.1).up, f.2.lo.up, f.2.2 7 (by omega) (by omega), f.2.2 4 (by omega) (by omega)⟩, e.up (by omega)⟩
theorem rr_chance {n : Int32} (h : MI m) : ∃ u0 m2, (MI m2 ∧ LO m m2 ∧ (m2 137 7 = m 137 7 ∧ m2 137 4 = m 137 4)) ∧ zF σ 19 1867 [.ref 137, .int n] (zS1, m, yy) (.inl (some (.int u0))) (zS1, m2, yy) := by
  have e := c_chance (σ := σ) (yy := yy) (m := m) (W := m 138) (n := n) h.1.1 h.1.2
  rw [zrow_sf] at e
  have f := chance_q (m := m) (W := m 138) (n := n) h.1
  exact ⟨_, _, ⟨(h.mr f.2 f.1).up, f.2.lo.up, f.2.2 7 (by omega) (by omega), f.2.2 4 (by omega) (by omega)⟩, e.up (by omega)⟩
theorem rr_poke {w : Int32} {v : Int32} (h : MI m) : ∃ u0 m2, (MI m2 ∧ LO m m2 ∧ (m2 137 7 = m 137 7 ∧ m2 137 4 = m 137 4)) ∧ zF σ 19 1868 [.ref 137, .int w, .int v] (zS1, m, yy) (.inl (some (.int u0))) (zS1, m2, yy) := by
  have e := c_poke (σ := σ) (yy := yy) (m := m) (W := m 138) (w := w) (v := v) h.1.1
  rw [zrow_sf] at e
  have f := poke_q (m := m) (W := m 138) (w := w) (v := v) h.1
  exact ⟨_, _, ⟨(h.mr f.2 f.1).up, f.2.lo.up, f.2.2 7 (by omega) (by omega), f.2.2 4 (by omega) (by omega)⟩, e.up (by omega)⟩
theorem rr_tune {x : Int32} {n : Int32} (h : MI m) : ∃ u0 m2, (MI m2 ∧ LO m m2 ∧ (m2 137 7 = m 137 7 ∧ m2 137 4 = m 137 4)) ∧ zF σ 19 1869 [.ref 137, .int x, .int n] (zS1, m, yy) (.inl (some (.int u0))) (zS1, m2, yy) := by
  have e := c_tune (σ := σ) (yy := yy) (m := m) (W := m 138) (x := x) (n := n) 
  rw [zrow_sf] at e
  have f := tune_q (m := m) (W := m 138) (x := x) (n := n) h.1
  exact ⟨_, _, ⟨(h.mr f.2 f.1).up, f.2.lo.up, f.2.2 7 (by omega) (by omega), f.2.2 4 (by omega) (by omega)⟩, e.up (by omega)⟩
theorem rr_seed {n : Int32} (h : MI m) : ∃ u0 m2, (MI m2 ∧ LO m m2 ∧ (m2 137 7 = m 137 7 ∧ m2 137 4 = m 137 4)) ∧ zF σ 19 1870 [.ref 137, .int n] (zS1, m, yy) (.inl (some (.int u0))) (zS1, m2, yy) := by
  have e := c_seed (σ := σ) (yy := yy) (m := m) (W := m 138) (n := n) 
  rw [zrow_sf] at e
  have f := seed_q (m := m) (W := m 138) (n := n) h.1
  exact ⟨_, _, ⟨(h.mr f.2 f.1).up, f.2.lo.up, f.2.2 7 (by omega) (by omega), f.2.2 4 (by omega) (by omega)⟩, e.up (by omega)⟩
theorem rr_due {t : Int32} (h : MI m) : ∃ u0 m2, (MI m2 ∧ LO m m2 ∧ (m2 137 7 = m 137 7 ∧ m2 137 4 = m 137 4)) ∧ zF σ 19 1890 [.ref 137, .int t] (zS1, m, yy) (.inl (some (.int u0))) (zS1, m2, yy) := by
  have e := c_due (σ := σ) (yy := yy) (m := m) (W := m 138) (t := t) h.1.1 h.1.2
  rw [zrow_sf] at e
  have f := due_q (m := m) (W := m 138) (t := t) h.1
  exact ⟨_, _, ⟨(h.mr f.2 f.1).up, f.2.lo.up, f.2.2 7 (by omega) (by omega), f.2.2 4 (by omega) (by omega)⟩, e.up (by omega)⟩
theorem rr_quickest {x : Int32} (h : MI m) : ∃ u0 m2, (MI m2 ∧ LO m m2 ∧ (m2 137 7 = m 137 7 ∧ m2 137 4 = m 137 4)) ∧ zF σ 19 1892 [.ref 137, .int x] (zS1, m, yy) (.inl (some (.int u0))) (zS1, m2, yy) := by
  have e := c_quickest (σ := σ) (yy := yy) (m := m) (W := m 138) (x := x) h.1.1 h.1.2
  rw [zrow_sf] at e
  have f := quickest_q (m := m) (W := m 138) (x := x) h.1
  exact ⟨_, _, ⟨(h.mr f.2 f.1).up, f.2.lo.up, f.2.2 7 (by omega) (by omega), f.2.2 4 (by omega) (by omega)⟩, e.up (by omega)⟩
theorem rr_plain (h : MI m) : ∃ u0 m2, (MI m2 ∧ LO m m2 ∧ (m2 137 7 = m 137 7 ∧ m2 137 4 = m 137 4)) ∧ zF σ 19 1893 [.ref 137] (zS1, m, yy) (.inl (some (.int u0))) (zS1, m2, yy) := by
  have e := c_plain (σ := σ) (yy := yy) (m := m) (W := m 138) h.1.1 h.1.2
  rw [zrow_sf] at e
  have f := plain_q (m := m) (W := m 138) h.1
  exact ⟨_, _, ⟨(h.mr f.2 f.1).up, f.2.lo.up, f.2.2 7 (by omega) (by omega), f.2.2 4 (by omega) (by omega)⟩, e.up (by omega)⟩
theorem rr_back (h : MI m) : ∃ m2, (MI m2 ∧ LO m m2 ∧ (m2 137 7 = m 137 7 ∧ m2 137 4 = m 137 4)) ∧ zF σ 19 1808 [.ref 137] (zS1, m, yy) (.inl (some (.int (q_back m (m 138)).1))) (zS1, m2, yy) := by
  have e := c_back (σ := σ) (yy := yy) (m := m) (W := m 138) 
  rw [zrow_sf] at e
  have f := back_q h
  exact ⟨_, ⟨(h.mr f.2 f.1).up, f.2.lo.up, f.2.2 7 (by omega) (by omega), f.2.2 4 (by omega) (by omega)⟩, e.up (by omega)⟩
theorem rr_octet {k : Int32} (h : MI m) : ∃ v m2, (MI m2 ∧ LO m m2 ∧ (m2 137 7 = m 137 7 ∧ m2 137 4 = m 137 4)) ∧ zF σ 19 1911 [.ref 137, .int k] (zS1, m, yy) (.inl (some (.int v))) (zS1, m2, yy) := by
  have e := c_octet (σ := σ) (yy := yy) (m := m) (W := m 138) (k := k) (w := mv m 137 16) h.2.2.2.2.1 h.2.2.2.2.2
  rw [zrow_sf] at e
  have f := octet_mr (m := m) (k := k) (w := mv m 137 16)
  exact ⟨_, _, ⟨(h.mr f h.1).up, f.lo.up, f.2 7 (by omega) (by omega), f.2 4 (by omega) (by omega)⟩, e.up (by omega)⟩
theorem rr_serial {v : Int32} (h : MI m) : ∃ u m2, (MI m2 ∧ LO m m2 ∧ (m2 137 7 = m 137 7 ∧ m2 137 4 = m 137 4)) ∧ zF σ 19 1906 [.ref 137, .int v] (zS1, m, yy) (.inl (some (.int u))) (zS1, m2, yy) := by
  have e := c_serial (σ := σ) (yy := yy) (m := m) (W := m 138) (v := v) h.1.1
  rw [zrow_sf] at e
  have f := serial_o (v := v) h
  exact ⟨_, _, ⟨f.1.up, f.2.up, serial_137 h.1.1 7 (by omega), serial_137 h.1.1 4 (by omega)⟩, e.up (by omega)⟩
theorem rr_text {t : Int32} (h : MI m) : ∃ u m2, (MI m2 ∧ LO m m2 ∧ (m2 137 7 = m 137 7 ∧ m2 137 4 = m 137 4)) ∧ zF σ 19 1910 [.ref 137, .int t] (zS1, m, yy) (.inl (some (.int u))) (zS1, m2, yy) := by
  obtain ⟨u, m1, f, e⟩ := c_text (σ := σ) (yy := yy) (m := m) (W := m 138) (t := t) h.1.1 h.2.2.2.2.1 h.2.2.2.2.2
  rw [zrow_sf] at e
  have g := text_o h f
  exact ⟨_, _, ⟨g.1.up, g.2.up, f.2.1 7 (by omega) (by omega), f.2.1 4 (by omega) (by omega)⟩, e.up (by omega)⟩
theorem rr_image (h : MI m) : ∃ m2, (MI m2 ∧ LO m m2 ∧ (m2 137 7 = m 137 7 ∧ m2 137 4 = Int32.ofNat 1)) ∧ zF σ 19 1807 [.ref 137] (zS1, m, yy) (.inl none) (zS1, m2, yy) := by
  have e := c_image (σ := σ) (yy := yy) (m := m) (W := m 138)
  rw [zrow_sf] at e
  have g := image_o h
  exact ⟨_, ⟨g.1.up, g.2.up, rfl, rfl⟩, e.up (by omega)⟩
theorem rr_machine (h : MI m) : ∃ v m2, (MI m2 ∧ LO m m2 ∧ (m2 137 7 = Int32.ofNat 0 ∧ m2 137 4 = m 137 4)) ∧ zF σ 19 1862 [.ref 137] (zS1, m, yy) (.inl (some (.int v))) (zS1, m2, yy) := by
  obtain ⟨b, hb, h10⟩ := h.2.2.2.1
  have e := c_machine (σ := σ) (yy := yy) (m := m) (W := m 138) (T := mv m 137 7) (b := b) h.2.2.1.1 h.2.2.1.2 h10 h.1.1
  rw [zrow_sf] at e
  have g := machine_o h
  exact ⟨_, _, ⟨g.1.1.up, g.1.2.up, g.2.1, g.2.2⟩, e.up (by omega)⟩
theorem rr_end {n : Int32} (h : MI m) : ∃ m2, (MI m2 ∧ LO m m2 ∧ (m2 137 7 = (bif zc1 .lt n then m 137 7 else bif zc2 .le n (m 137 7) then n else m 137 7) ∧ m2 137 4 = m 137 4)) ∧ zF σ 19 1842 [.ref 137, .int n] (zS1, m, yy) (.inl (some (.int (q_end m n).1))) (zS1, m2, yy) := by
  have e := c_end (σ := σ) (yy := yy) (m := m) (W := m 138) (n := n)
  rw [zrow_sf] at e
  have g := end_o (n := n) h
  have e4 : (q_end m n).2 137 4 = m 137 4 := by
    have a4 : zm2 m 137 0 (Int32.ofNat 0) 137 4 = m 137 4 := zx_nk _ _ (by decide)
    unfold q_end
    refine cndi (fun q : Int32 × (Nat → Nat → Int32) => q.2 137 4 = m 137 4) a4 (cndi (fun q : Int32 × (Nat → Nat → Int32) => q.2 137 4 = m 137 4) ?_ a4)
    exact (zx_nk (k := 7) _ n (by decide)).trans a4
  refine ⟨_, ⟨g.1.up, g.2.up, ?_, e4⟩, e.up (by omega)⟩
  show (q_end m n).2 137 7 = _
  have e7 : zm2 m 137 0 (Int32.ofNat 0) 137 7 = m 137 7 := zx_nk _ _ (by decide)
  unfold q_end
  rw [e7]
  cases zc1 .lt n with
  | true => exact e7
  | false =>
    cases zc2 .le n (m 137 7) with
    | true =>
      show zm2 (zm2 m 137 0 (Int32.ofNat 0)) 137 7 n 137 7 = n
      exact zx_at _ _ _ _
    | false => exact e7
theorem rr_feed {a b c e f : Int32} {T : Nat} (h : MI m) (hT : m 137 7 = Int32.ofNat T) (h4 : T ≤ 400) : ∃ m2, (MI m2 ∧ LO m m2 ∧ (m2 137 7 = (bif zc2 .le (Int32.ofNat (T + 20)) (Int32.ofNat 400) then Int32.ofNat (T + 20) else m 137 7) ∧ m2 137 4 = m 137 4)) ∧ zF σ 19 1841 [.ref 137, .int a, .int b, .int c, .int e, .int f] (zS1, m, yy) (.inl (some (.int (bif zc2 .le (Int32.ofNat (T + 20)) (Int32.ofNat 400) then Int32.ofNat (T + 20) else -1)))) (zS1, m2, yy) := by
  have ev := c_feed (σ := σ) (yy := yy) (m := m) (W := m 138) (a := a) (b := b) (c := c) (e := e) (f := f) (T := T) hT h4
  rw [zrow_sf] at ev
  have g := feed_o (a := a) (b := b) (c := c) (e := e) (f := f) (T := T) h h4
  have v1 : (q_feed m a b c e f T).1 = (bif zc2 .le (Int32.ofNat (T + 20)) (Int32.ofNat 400) then Int32.ofNat (T + 20) else -1) := by
    unfold q_feed
    cases zc2 .le (Int32.ofNat (T + 20)) (Int32.ofNat 400) with
    | true =>
      dsimp only [cond_true]
      exact (feedL_v (a := a) (b := b) (c := c) (e := e) (f := f) (T := T) 20 0 _).2.2
    | false => rfl
  have v2 : (q_feed m a b c e f T).2 137 7 = (bif zc2 .le (Int32.ofNat (T + 20)) (Int32.ofNat 400) then Int32.ofNat (T + 20) else m 137 7) := by
    unfold q_feed
    cases zc2 .le (Int32.ofNat (T + 20)) (Int32.ofNat 400) with
    | true =>
      dsimp only [cond_true]
      exact (feedL_v (a := a) (b := b) (c := c) (e := e) (f := f) (T := T) 20 0 _).2.1
    | false =>
      show zm2 m 137 0 (Int32.ofNat 0) 137 7 = m 137 7
      exact zx_nk _ _ (by decide)
  have v4 : (q_feed m a b c e f T).2 137 4 = m 137 4 := by
    have a4 : zm2 m 137 0 (Int32.ofNat 0) 137 4 = m 137 4 := zx_nk _ _ (by decide)
    unfold q_feed
    refine cndi (fun q : Int32 × (Nat → Nat → Int32) => q.2 137 4 = m 137 4) ?_ a4
    exact ((feedL_v (a := a) (b := b) (c := c) (e := e) (f := f) (T := T) 20 0 _).1 137 4 (by decide) (by decide)).trans a4
  rw [v1] at ev
  exact ⟨_, ⟨g.1.up, g.2.up, v2, v4⟩, ev.up (by omega)⟩
end ZRR
