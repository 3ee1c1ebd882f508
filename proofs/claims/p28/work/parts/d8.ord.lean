/-! the class's search for an order -/
theorem zS132 : zS1[132]? = some (10, 32, []) := rfl
theorem zS133 : zS1[133]? = some (10, 320, []) := rfl
theorem zS134 : zS1[134]? = some (10, 4, []) := rfl
theorem zS135 : zS1[135]? = some (10, 4, []) := rfl
theorem zS136 : zS1[136]? = some (10, 10, []) := rfl
def x_playOutput (m : Nat → Nat → Int32) (t : Nat) (s : Int32) : Int32 × (Nat → Nat → Int32) := (bif zc1 .lt (m 131 6) then ((Int32.ofNat 1), m) else (bif zc2 .lt (m 131 6) (Int32.ofNat 20) then (bif zc2 .ge (m 131 6) (m 1 12) then ((Int32.ofNat 0), m) else (bif zc2 .ne (m ((1 + 38)) (((m 131 6).toNatClampNeg))) (Int32.ofNat t) then ((Int32.ofNat 0), m) else (bif zc2 .eq (m ((1 + 39)) (((m 131 6).toNatClampNeg))) s then ((Int32.ofNat 1), (zm2 m 131 6 ((m 131 6) + (Int32.ofNat 1)))) else ((Int32.ofNat 0), m)))) else ((Int32.ofNat 1), m)))
theorem xp_playOutput {σ : Nat → Nat × (Nat → Int32)} {yy : (Nat → Nat → Int64) × Bool × Nat × Nat} {m : Nat → Nat → Int32} {t : Nat} {s : Int32} {d : Nat} (hd : 1 ≤ d + 1) : zEv σ (d + 1) 807 0 [some (.ref 131), some (.int (Int32.ofNat t)), some (.int s)] [] (zS1, m, yy) (.inl (some (.int (x_playOutput m t s).1))) (zS1, ((x_playOutput m t s).2), yy) := by
  refine zeP rfl rfl ?_
  refine zeGI rfl rfl zS131 rfl rfl ?_
  refine zeB1 rfl rfl (fun h1 => ?_) (fun h1 => ?_)
  · refine zeKn (c := 1) rfl rfl rfl ?_
    exact zeRe rfl rfl rfl rfl (by simp only [x_playOutput, h1, cond_true, cond_false] <;> rfl) (by simp only [x_playOutput, h1, cond_true, cond_false] <;> rfl)
  · refine zeP rfl rfl ?_
    refine zeGI rfl rfl zS131 rfl rfl ?_
    refine zeKn (c := 20) rfl rfl rfl ?_
    refine zeB2 rfl rfl (fun h2 => ?_) (fun h2 => ?_)
    · refine zeP rfl rfl ?_
      refine zeGI rfl rfl zS131 rfl rfl ?_
      refine zeP rfl rfl ?_
      refine zeGR rfl rfl zS131 rfl rfl ?_
      refine zeGI rfl rfl (shM bb1) rfl rfl ?_
      refine zeB2 rfl rfl (fun h3 => ?_) (fun h3 => ?_)
      · refine zeKn (c := 0) rfl rfl rfl ?_
        exact zeRe rfl rfl rfl rfl (by simp only [x_playOutput, h1, h2, h3, cond_true, cond_false] <;> rfl) (by simp only [x_playOutput, h1, h2, h3, cond_true, cond_false] <;> rfl)
      · refine zeP rfl rfl ?_
        refine zeGR rfl rfl zS131 rfl rfl ?_
        refine zeGR rfl rfl (shM bb1) rfl rfl ?_
        refine zeP rfl rfl ?_
        refine zeGI rfl rfl zS131 rfl rfl ?_
        rw [(i4_of (x := m 131 6) (n := 20) (by omega) (by assumption) (by assumption)).1]
        refine zeAL (k := ((m 131 6).toNatClampNeg)) rfl rfl (shOT bb1) rfl (by have := (i4_of (x := m 131 6) (n := 20) (by omega) (by assumption) (by assumption)).2; omega) ?_
        refine zeP rfl rfl ?_
        refine zeB2 rfl rfl (fun h4 => ?_) (fun h4 => ?_)
        · refine zeKn (c := 0) rfl rfl rfl ?_
          exact zeRe rfl rfl rfl rfl (by simp only [x_playOutput, h1, h2, h3, h4, cond_true, cond_false] <;> rfl) (by simp only [x_playOutput, h1, h2, h3, h4, cond_true, cond_false] <;> rfl)
        · refine zeP rfl rfl ?_
          refine zeGR rfl rfl zS131 rfl rfl ?_
          refine zeGR rfl rfl (shM bb1) rfl rfl ?_
          refine zeP rfl rfl ?_
          refine zeGI rfl rfl zS131 rfl rfl ?_
          rw [(i4_of (x := m 131 6) (n := 20) (by omega) (by assumption) (by assumption)).1]
          refine zeAL (k := ((m 131 6).toNatClampNeg)) rfl rfl (shOS bb1) rfl (by have := (i4_of (x := m 131 6) (n := 20) (by omega) (by assumption) (by assumption)).2; omega) ?_
          refine zeP rfl rfl ?_
          refine zeB2 rfl rfl (fun h5 => ?_) (fun h5 => ?_)
          · refine zeP rfl rfl ?_
            refine zeP rfl rfl ?_
            refine zeGI rfl rfl zS131 rfl rfl ?_
            refine zeKn (c := 1) rfl rfl rfl ?_
            refine zeP rfl rfl ?_
            refine zePI rfl rfl zS131 rfl ?_
            refine zeKn (c := 1) rfl rfl rfl ?_
            exact zeRe rfl rfl rfl rfl (by simp only [x_playOutput, h1, h2, h3, h4, h5, cond_true, cond_false] <;> rfl) (by simp only [x_playOutput, h1, h2, h3, h4, h5, cond_true, cond_false] <;> rfl)
          · refine zeKn (c := 0) rfl rfl rfl ?_
            exact zeRe rfl rfl rfl rfl (by simp only [x_playOutput, h1, h2, h3, h4, h5, cond_true, cond_false] <;> rfl) (by simp only [x_playOutput, h1, h2, h3, h4, h5, cond_true, cond_false] <;> rfl)
    · refine zeKn (c := 1) rfl rfl rfl ?_
      exact zeRe rfl rfl rfl rfl (by simp only [x_playOutput, h1, h2, cond_true, cond_false] <;> rfl) (by simp only [x_playOutput, h1, h2, cond_true, cond_false] <;> rfl)
theorem xc_playOutput {σ : Nat → Nat × (Nat → Int32)} {yy : (Nat → Nat → Int64) × Bool × Nat × Nat} {m : Nat → Nat → Int32} {t : Nat} {s : Int32} : zF σ 1 807 [.ref 131, .int (Int32.ofNat t), .int s] (zS1, m, yy) (.inl (some (.int (x_playOutput m t s).1))) (zS1, ((x_playOutput m t s).2), yy) := by
  intro d hd
  obtain ⟨d, rfl⟩ : ∃ k, d = k + 1 := ⟨d - 1, by omega⟩
  exact xp_playOutput hd 
/-- an answer yes or no; words, sums and the count of outputs alone may change -/
def PDo (m : Nat → Nat → Int32) (X : Int32 × (Nat → Nat → Int32)) : Prop := (X.1 = 0 ∨ X.1 = 1) ∧ ∀ i l, i ≠ 132 → i ≠ 135 → i ≠ 131 ∨ l ≠ 6 → X.2 i l = m i l
theorem PDo.y {m : Nat → Nat → Int32} : PDo m (Int32.ofNat 1, m) := ⟨Or.inr rfl, fun _ _ _ _ _ => rfl⟩
theorem PDo.n {m : Nat → Nat → Int32} : PDo m (Int32.ofNat 0, m) := ⟨Or.inl rfl, fun _ _ _ _ _ => rfl⟩
theorem PDo.p {m : Nat → Nat → Int32} {a k : Nat} {x : Int32} (h : a = 132 ∨ a = 135 ∨ (a = 131 ∧ k = 6)) : PDo m (Int32.ofNat 1, zm2 m a k x) := ⟨Or.inr rfl, fun i l h1 h2 h3 => zx_o _ _ (by omega)⟩
theorem playOutput_o {m : Nat → Nat → Int32} {t : Nat} {s : Int32} : PDo m (x_playOutput m t s) := by
  unfold x_playOutput
  exact cndi (PDo m) PDo.y (cndi (PDo m) (cndi (PDo m) PDo.n (cndi (PDo m) PDo.n (cndi (PDo m) (PDo.p (Or.inr (Or.inr ⟨rfl, rfl⟩))) PDo.n))) PDo.y)
def x_pd0 (m : Nat → Nat → Int32) (t : Nat) (q : Nat) : Int32 × (Nat → Nat → Int32) := (bif zc1 .eq (m 132 ((mv m (1 + 5 + q) 0))) then ((Int32.ofNat 1), (zm2 m 132 ((mv m (1 + 5 + q) 0)) (Int32.ofNat 1))) else ((Int32.ofNat 0), m))
theorem xp_pd0 {σ : Nat → Nat × (Nat → Int32)} {yy : (Nat → Nat → Int64) × Bool × Nat × Nat} {m : Nat → Nat → Int32} {t : Nat} {q : Nat} {d : Nat} (hd : 2 ≤ d + 1) (ht : t < 4) (hq : q < 4) (hw : okm m (1 + 5 + q) 0 31) : zEv σ (d + 1) 806 0 [some (.ref 131), some (.int (Int32.ofNat t)), some (.int (Int32.ofNat 0)), some (.int (Int32.ofNat q)), none, none] [] (zS1, m, yy) (.inl (some (.int (x_pd0 m t q).1))) (zS1, ((x_pd0 m t q).2), yy) := by
  refine zeP rfl rfl ?_
  refine zeKn (c := 3) rfl rfl rfl ?_
  refine zeON (c := t) rfl rfl (zand3 (by omega)) ?_
  refine zeP rfl rfl ?_
  refine zeP rfl rfl ?_
  refine zeT1 rfl rfl (show zc1 .eq (Int32.ofNat 0) = true by decide) ?_
  refine zeP rfl rfl ?_
  refine zeGR rfl rfl zS131 rfl rfl ?_
  refine zeP rfl rfl ?_
  refine zeCV rfl rfl rfl rfl (shM bb1) rfl (xc_lockAt (m := m) (b := 1) (l := q) bb1 hq) (by omega) ?_
  dsimp only [Option.toList, List.cons_append, List.nil_append]
  refine zeGI rfl rfl (shL bb1 (by omega)) rfl rfl ?_
  rw [hw.1]
  refine zeP rfl rfl ?_
  refine zeKn (c := 31) rfl rfl rfl ?_
  refine zeON (c := (mv m (1 + 5 + q) 0)) rfl rfl (zand31 _ (by have := hw.2; omega)) ?_
  refine zeP rfl rfl ?_
  refine zeP rfl rfl ?_
  refine zeP rfl rfl ?_
  refine zeP rfl rfl ?_
  refine zeGR rfl rfl zS131 rfl rfl ?_
  refine zeP rfl rfl ?_
  refine zeAL (k := (mv m (1 + 5 + q) 0)) rfl rfl zS132 rfl (by have := hw.2; omega) ?_
  refine zeB1 rfl rfl (fun h1 => ?_) (fun h1 => ?_)
  · refine zeP rfl rfl ?_
    refine zeGR rfl rfl zS131 rfl rfl ?_
    refine zeP rfl rfl ?_
    refine zeKn (c := 1) rfl rfl rfl ?_
    refine zeAS (k := (mv m (1 + 5 + q) 0)) rfl zS132 rfl (by have := hw.2; omega) ?_
    refine zeKn (c := 1) rfl rfl rfl ?_
    exact zeRe rfl rfl rfl rfl (by simp only [x_pd0, h1, cond_true, cond_false] <;> rfl) (by simp only [x_pd0, h1, cond_true, cond_false] <;> rfl)
  · refine zeKn (c := 0) rfl rfl rfl ?_
    exact zeRe rfl rfl rfl rfl (by simp only [x_pd0, h1, cond_true, cond_false] <;> rfl) (by simp only [x_pd0, h1, cond_true, cond_false] <;> rfl)
theorem xc_pd0 {σ : Nat → Nat × (Nat → Int32)} {yy : (Nat → Nat → Int64) × Bool × Nat × Nat} {m : Nat → Nat → Int32} {t : Nat} {q : Nat} (ht : t < 4) (hq : q < 4) (hw : okm m (1 + 5 + q) 0 31) : zF σ 2 806 [.ref 131, .int (Int32.ofNat t), .int (Int32.ofNat 0), .int (Int32.ofNat q)] (zS1, m, yy) (.inl (some (.int (x_pd0 m t q).1))) (zS1, ((x_pd0 m t q).2), yy) := by
  intro d hd
  obtain ⟨d, rfl⟩ : ∃ k, d = k + 1 := ⟨d - 1, by omega⟩
  exact xp_pd0 hd ht hq hw
def x_pd1 (m : Nat → Nat → Int32) (t : Nat) (q : Nat) : Int32 × (Nat → Nat → Int32) := ((Int32.ofNat 1), (zm2 m 132 ((mv m (1 + 5 + q) 0)) (Int32.ofNat 0)))
theorem xp_pd1 {σ : Nat → Nat × (Nat → Int32)} {yy : (Nat → Nat → Int64) × Bool × Nat × Nat} {m : Nat → Nat → Int32} {t : Nat} {q : Nat} {d : Nat} (hd : 2 ≤ d + 1) (ht : t < 4) (hq : q < 4) (hw : okm m (1 + 5 + q) 0 31) : zEv σ (d + 1) 806 0 [some (.ref 131), some (.int (Int32.ofNat t)), some (.int (Int32.ofNat 1)), some (.int (Int32.ofNat q)), none, none] [] (zS1, m, yy) (.inl (some (.int (x_pd1 m t q).1))) (zS1, ((x_pd1 m t q).2), yy) := by
  refine zeP rfl rfl ?_
  refine zeKn (c := 3) rfl rfl rfl ?_
  refine zeON (c := t) rfl rfl (zand3 (by omega)) ?_
  refine zeP rfl rfl ?_
  refine zeP rfl rfl ?_
  refine zeF1 rfl rfl (show zc1 .eq (Int32.ofNat 1) = false by decide) ?_
  refine zeP rfl rfl ?_
  refine zeKn (c := 1) rfl rfl rfl ?_
  refine zeF2 rfl rfl (show zc2 .ne (Int32.ofNat 1) (Int32.ofNat 1) = false by decide) ?_
  refine zeP rfl rfl ?_
  refine zeGR rfl rfl zS131 rfl rfl ?_
  refine zeP rfl rfl ?_
  refine zeCV rfl rfl rfl rfl (shM bb1) rfl (xc_lockAt (m := m) (b := 1) (l := q) bb1 hq) (by omega) ?_
  dsimp only [Option.toList, List.cons_append, List.nil_append]
  refine zeGI rfl rfl (shL bb1 (by omega)) rfl rfl ?_
  rw [hw.1]
  refine zeP rfl rfl ?_
  refine zeKn (c := 31) rfl rfl rfl ?_
  refine zeON (c := (mv m (1 + 5 + q) 0)) rfl rfl (zand31 _ (by have := hw.2; omega)) ?_
  refine zeP rfl rfl ?_
  refine zeP rfl rfl ?_
  refine zeP rfl rfl ?_
  refine zeP rfl rfl ?_
  refine zeGR rfl rfl zS131 rfl rfl ?_
  refine zeP rfl rfl ?_
  refine zeKn (c := 0) rfl rfl rfl ?_
  refine zeAS (k := (mv m (1 + 5 + q) 0)) rfl zS132 rfl (by have := hw.2; omega) ?_
  refine zeKn (c := 1) rfl rfl rfl ?_
  exact zeRe rfl rfl rfl rfl (by rfl) (by rfl)
theorem xc_pd1 {σ : Nat → Nat × (Nat → Int32)} {yy : (Nat → Nat → Int64) × Bool × Nat × Nat} {m : Nat → Nat → Int32} {t : Nat} {q : Nat} (ht : t < 4) (hq : q < 4) (hw : okm m (1 + 5 + q) 0 31) : zF σ 2 806 [.ref 131, .int (Int32.ofNat t), .int (Int32.ofNat 1), .int (Int32.ofNat q)] (zS1, m, yy) (.inl (some (.int (x_pd1 m t q).1))) (zS1, ((x_pd1 m t q).2), yy) := by
  intro d hd
  obtain ⟨d, rfl⟩ : ∃ k, d = k + 1 := ⟨d - 1, by omega⟩
  exact xp_pd1 hd ht hq hw
def x_pd2 (m : Nat → Nat → Int32) (t : Nat) (q : Nat) : Int32 × (Nat → Nat → Int32) := ((Int32.ofNat 1), (zm2 m 135 t (m 132 q)))
theorem xp_pd2 {σ : Nat → Nat × (Nat → Int32)} {yy : (Nat → Nat → Int64) × Bool × Nat × Nat} {m : Nat → Nat → Int32} {t : Nat} {q : Nat} {d : Nat} (hd : 1 ≤ d + 1) (ht : t < 4) (hq : q < 32) : zEv σ (d + 1) 806 0 [some (.ref 131), some (.int (Int32.ofNat t)), some (.int (Int32.ofNat 2)), some (.int (Int32.ofNat q)), none, none] [] (zS1, m, yy) (.inl (some (.int (x_pd2 m t q).1))) (zS1, ((x_pd2 m t q).2), yy) := by
  refine zeP rfl rfl ?_
  refine zeKn (c := 3) rfl rfl rfl ?_
  refine zeON (c := t) rfl rfl (zand3 (by omega)) ?_
  refine zeP rfl rfl ?_
  refine zeP rfl rfl ?_
  refine zeF1 rfl rfl (show zc1 .eq (Int32.ofNat 2) = false by decide) ?_
  refine zeP rfl rfl ?_
  refine zeKn (c := 1) rfl rfl rfl ?_
  refine zeT2 rfl rfl (show zc2 .ne (Int32.ofNat 2) (Int32.ofNat 1) = true by decide) ?_
  refine zeP rfl rfl ?_
  refine zeKn (c := 31) rfl rfl rfl ?_
  refine zeON (c := q) rfl rfl (zand31 _ hq) ?_
  refine zeP rfl rfl ?_
  refine zeP rfl rfl ?_
  refine zeP rfl rfl ?_
  refine zeP rfl rfl ?_
  refine zeGR rfl rfl zS131 rfl rfl ?_
  refine zeP rfl rfl ?_
  refine zeP rfl rfl ?_
  refine zeGR rfl rfl zS131 rfl rfl ?_
  refine zeP rfl rfl ?_
  refine zeAL (k := q) rfl rfl zS132 rfl (by omega) ?_
  refine zeAS (k := t) rfl zS135 rfl (by omega) ?_
  refine zeKn (c := 1) rfl rfl rfl ?_
  exact zeRe rfl rfl rfl rfl (by rfl) (by rfl)
theorem xc_pd2 {σ : Nat → Nat × (Nat → Int32)} {yy : (Nat → Nat → Int64) × Bool × Nat × Nat} {m : Nat → Nat → Int32} {t : Nat} {q : Nat} (ht : t < 4) (hq : q < 32) : zF σ 1 806 [.ref 131, .int (Int32.ofNat t), .int (Int32.ofNat 2), .int (Int32.ofNat q)] (zS1, m, yy) (.inl (some (.int (x_pd2 m t q).1))) (zS1, ((x_pd2 m t q).2), yy) := by
  intro d hd
  obtain ⟨d, rfl⟩ : ∃ k, d = k + 1 := ⟨d - 1, by omega⟩
  exact xp_pd2 hd ht hq
def x_pd3 (m : Nat → Nat → Int32) (t : Nat) (q : Nat) : Int32 × (Nat → Nat → Int32) := ((Int32.ofNat 1), (zm2 m 132 q (m 135 t)))
theorem xp_pd3 {σ : Nat → Nat × (Nat → Int32)} {yy : (Nat → Nat → Int64) × Bool × Nat × Nat} {m : Nat → Nat → Int32} {t : Nat} {q : Nat} {d : Nat} (hd : 1 ≤ d + 1) (ht : t < 4) (hq : q < 32) : zEv σ (d + 1) 806 0 [some (.ref 131), some (.int (Int32.ofNat t)), some (.int (Int32.ofNat 3)), some (.int (Int32.ofNat q)), none, none] [] (zS1, m, yy) (.inl (some (.int (x_pd3 m t q).1))) (zS1, ((x_pd3 m t q).2), yy) := by
  refine zeP rfl rfl ?_
  refine zeKn (c := 3) rfl rfl rfl ?_
  refine zeON (c := t) rfl rfl (zand3 (by omega)) ?_
  refine zeP rfl rfl ?_
  refine zeP rfl rfl ?_
  refine zeF1 rfl rfl (show zc1 .eq (Int32.ofNat 3) = false by decide) ?_
  refine zeP rfl rfl ?_
  refine zeKn (c := 1) rfl rfl rfl ?_
  refine zeT2 rfl rfl (show zc2 .ne (Int32.ofNat 3) (Int32.ofNat 1) = true by decide) ?_
  refine zeP rfl rfl ?_
  refine zeKn (c := 31) rfl rfl rfl ?_
  refine zeON (c := q) rfl rfl (zand31 _ hq) ?_
  refine zeP rfl rfl ?_
  refine zeP rfl rfl ?_
  refine zeP rfl rfl ?_
  refine zeP rfl rfl ?_
  refine zeGR rfl rfl zS131 rfl rfl ?_
  refine zeP rfl rfl ?_
  refine zeP rfl rfl ?_
  refine zeGR rfl rfl zS131 rfl rfl ?_
  refine zeP rfl rfl ?_
  refine zeAL (k := t) rfl rfl zS135 rfl (by omega) ?_
  refine zeAS (k := q) rfl zS132 rfl (by omega) ?_
  refine zeKn (c := 1) rfl rfl rfl ?_
  exact zeRe rfl rfl rfl rfl (by rfl) (by rfl)
theorem xc_pd3 {σ : Nat → Nat × (Nat → Int32)} {yy : (Nat → Nat → Int64) × Bool × Nat × Nat} {m : Nat → Nat → Int32} {t : Nat} {q : Nat} (ht : t < 4) (hq : q < 32) : zF σ 1 806 [.ref 131, .int (Int32.ofNat t), .int (Int32.ofNat 3), .int (Int32.ofNat q)] (zS1, m, yy) (.inl (some (.int (x_pd3 m t q).1))) (zS1, ((x_pd3 m t q).2), yy) := by
  intro d hd
  obtain ⟨d, rfl⟩ : ∃ k, d = k + 1 := ⟨d - 1, by omega⟩
  exact xp_pd3 hd ht hq
def x_pd4 (m : Nat → Nat → Int32) (t : Nat) (q : Nat) : Int32 × (Nat → Nat → Int32) := ((Int32.ofNat 1), (zm2 m 135 t (Int32.ofNat q)))
theorem xp_pd4 {σ : Nat → Nat × (Nat → Int32)} {yy : (Nat → Nat → Int64) × Bool × Nat × Nat} {m : Nat → Nat → Int32} {t : Nat} {q : Nat} {d : Nat} (hd : 1 ≤ d + 1) (ht : t < 4) : zEv σ (d + 1) 806 0 [some (.ref 131), some (.int (Int32.ofNat t)), some (.int (Int32.ofNat 4)), some (.int (Int32.ofNat q)), none, none] [] (zS1, m, yy) (.inl (some (.int (x_pd4 m t q).1))) (zS1, ((x_pd4 m t q).2), yy) := by
  refine zeP rfl rfl ?_
  refine zeKn (c := 3) rfl rfl rfl ?_
  refine zeON (c := t) rfl rfl (zand3 (by omega)) ?_
  refine zeP rfl rfl ?_
  refine zeP rfl rfl ?_
  refine zeF1 rfl rfl (show zc1 .eq (Int32.ofNat 4) = false by decide) ?_
  refine zeP rfl rfl ?_
  refine zeKn (c := 1) rfl rfl rfl ?_
  refine zeT2 rfl rfl (show zc2 .ne (Int32.ofNat 4) (Int32.ofNat 1) = true by decide) ?_
  refine zeP rfl rfl ?_
  refine zeKn (c := 31) rfl rfl rfl ?_
  refine zeP rfl rfl ?_
  refine zeP rfl rfl ?_
  refine zeP rfl rfl ?_
  refine zeP rfl rfl ?_
  refine zeP rfl rfl ?_
  refine zeGR rfl rfl zS131 rfl rfl ?_
  refine zeP rfl rfl ?_
  refine zeP rfl rfl ?_
  refine zeAS (k := t) rfl zS135 rfl (by omega) ?_
  refine zeKn (c := 1) rfl rfl rfl ?_
  exact zeRe rfl rfl rfl rfl (by rfl) (by rfl)
theorem xc_pd4 {σ : Nat → Nat × (Nat → Int32)} {yy : (Nat → Nat → Int64) × Bool × Nat × Nat} {m : Nat → Nat → Int32} {t : Nat} {q : Nat} (ht : t < 4) : zF σ 1 806 [.ref 131, .int (Int32.ofNat t), .int (Int32.ofNat 4), .int (Int32.ofNat q)] (zS1, m, yy) (.inl (some (.int (x_pd4 m t q).1))) (zS1, ((x_pd4 m t q).2), yy) := by
  intro d hd
  obtain ⟨d, rfl⟩ : ∃ k, d = k + 1 := ⟨d - 1, by omega⟩
  exact xp_pd4 hd ht
def x_pd5 (m : Nat → Nat → Int32) (t : Nat) (q : Nat) : Int32 × (Nat → Nat → Int32) := ((Int32.ofNat 1), (zm2 m 135 t (((m 135 t) + (Int32.ofNat q)) - ((m 135 t) + (Int32.ofNat q)) / (Int32.ofNat 10000) * (Int32.ofNat 10000))))
theorem xp_pd5 {σ : Nat → Nat × (Nat → Int32)} {yy : (Nat → Nat → Int64) × Bool × Nat × Nat} {m : Nat → Nat → Int32} {t : Nat} {q : Nat} {d : Nat} (hd : 1 ≤ d + 1) (ht : t < 4) : zEv σ (d + 1) 806 0 [some (.ref 131), some (.int (Int32.ofNat t)), some (.int (Int32.ofNat 5)), some (.int (Int32.ofNat q)), none, none] [] (zS1, m, yy) (.inl (some (.int (x_pd5 m t q).1))) (zS1, ((x_pd5 m t q).2), yy) := by
  refine zeP rfl rfl ?_
  refine zeKn (c := 3) rfl rfl rfl ?_
  refine zeON (c := t) rfl rfl (zand3 (by omega)) ?_
  refine zeP rfl rfl ?_
  refine zeP rfl rfl ?_
  refine zeF1 rfl rfl (show zc1 .eq (Int32.ofNat 5) = false by decide) ?_
  refine zeP rfl rfl ?_
  refine zeKn (c := 1) rfl rfl rfl ?_
  refine zeT2 rfl rfl (show zc2 .ne (Int32.ofNat 5) (Int32.ofNat 1) = true by decide) ?_
  refine zeP rfl rfl ?_
  refine zeKn (c := 31) rfl rfl rfl ?_
  refine zeP rfl rfl ?_
  refine zeP rfl rfl ?_
  refine zeP rfl rfl ?_
  refine zeP rfl rfl ?_
  refine zeP rfl rfl ?_
  refine zeGR rfl rfl zS131 rfl rfl ?_
  refine zeP rfl rfl ?_
  refine zeP rfl rfl ?_
  refine zeGR rfl rfl zS131 rfl rfl ?_
  refine zeP rfl rfl ?_
  refine zeAL (k := t) rfl rfl zS135 rfl (by omega) ?_
  refine zeP rfl rfl ?_
  refine zeP rfl rfl ?_
  refine zeKn (c := 10000) rfl rfl rfl ?_
  refine zeRem rfl (by decide) ?_
  refine zeAS (k := t) rfl zS135 rfl (by omega) ?_
  refine zeKn (c := 1) rfl rfl rfl ?_
  exact zeRe rfl rfl rfl rfl (by rfl) (by rfl)
theorem xc_pd5 {σ : Nat → Nat × (Nat → Int32)} {yy : (Nat → Nat → Int64) × Bool × Nat × Nat} {m : Nat → Nat → Int32} {t : Nat} {q : Nat} (ht : t < 4) : zF σ 1 806 [.ref 131, .int (Int32.ofNat t), .int (Int32.ofNat 5), .int (Int32.ofNat q)] (zS1, m, yy) (.inl (some (.int (x_pd5 m t q).1))) (zS1, ((x_pd5 m t q).2), yy) := by
  intro d hd
  obtain ⟨d, rfl⟩ : ∃ k, d = k + 1 := ⟨d - 1, by omega⟩
  exact xp_pd5 hd ht
def x_pd6 (t : Nat) (q : Nat) : Int32 := (Int32.ofNat 1)
theorem xp_pd6 {σ : Nat → Nat × (Nat → Int32)} {yy : (Nat → Nat → Int64) × Bool × Nat × Nat} {m : Nat → Nat → Int32} {t : Nat} {q : Nat} {d : Nat} (hd : 1 ≤ d + 1) (ht : t < 4) : zEv σ (d + 1) 806 0 [some (.ref 131), some (.int (Int32.ofNat t)), some (.int (Int32.ofNat 6)), some (.int (Int32.ofNat q)), none, none] [] (zS1, m, yy) (.inl (some (.int (x_pd6 t q)))) (zS1, m, yy) := by
  refine zeP rfl rfl ?_
  refine zeKn (c := 3) rfl rfl rfl ?_
  refine zeON (c := t) rfl rfl (zand3 (by omega)) ?_
  refine zeP rfl rfl ?_
  refine zeP rfl rfl ?_
  refine zeF1 rfl rfl (show zc1 .eq (Int32.ofNat 6) = false by decide) ?_
  refine zeP rfl rfl ?_
  refine zeKn (c := 1) rfl rfl rfl ?_
  refine zeT2 rfl rfl (show zc2 .ne (Int32.ofNat 6) (Int32.ofNat 1) = true by decide) ?_
  refine zeP rfl rfl ?_
  refine zeKn (c := 31) rfl rfl rfl ?_
  refine zeP rfl rfl ?_
  refine zeP rfl rfl ?_
  refine zeP rfl rfl ?_
  refine zeP rfl rfl ?_
  refine zeKn (c := 1) rfl rfl rfl ?_
  exact zeRe rfl rfl rfl rfl (by rfl) (by rfl)
theorem xc_pd6 {σ : Nat → Nat × (Nat → Int32)} {yy : (Nat → Nat → Int64) × Bool × Nat × Nat} {m : Nat → Nat → Int32} {t : Nat} {q : Nat} (ht : t < 4) : zF σ 1 806 [.ref 131, .int (Int32.ofNat t), .int (Int32.ofNat 6), .int (Int32.ofNat q)] (zS1, m, yy) (.inl (some (.int (x_pd6 t q)))) (zS1, m, yy) := by
  intro d hd
  obtain ⟨d, rfl⟩ : ∃ k, d = k + 1 := ⟨d - 1, by omega⟩
  exact xp_pd6 hd ht
def x_pd7 (m : Nat → Nat → Int32) (t : Nat) (q : Nat) : Int32 × (Nat → Nat → Int32) := ((x_playOutput m t ((m 135 t))).1, (x_playOutput m t ((m 135 t))).2)
theorem xp_pd7 {σ : Nat → Nat × (Nat → Int32)} {yy : (Nat → Nat → Int64) × Bool × Nat × Nat} {m : Nat → Nat → Int32} {t : Nat} {q : Nat} {d : Nat} (hd : 2 ≤ d + 1) (ht : t < 4) : zEv σ (d + 1) 806 0 [some (.ref 131), some (.int (Int32.ofNat t)), some (.int (Int32.ofNat 7)), some (.int (Int32.ofNat q)), none, none] [] (zS1, m, yy) (.inl (some (.int (x_pd7 m t q).1))) (zS1, ((x_pd7 m t q).2), yy) := by
  refine zeP rfl rfl ?_
  refine zeKn (c := 3) rfl rfl rfl ?_
  refine zeON (c := t) rfl rfl (zand3 (by omega)) ?_
  refine zeP rfl rfl ?_
  refine zeP rfl rfl ?_
  refine zeF1 rfl rfl (show zc1 .eq (Int32.ofNat 7) = false by decide) ?_
  refine zeP rfl rfl ?_
  refine zeKn (c := 1) rfl rfl rfl ?_
  refine zeT2 rfl rfl (show zc2 .ne (Int32.ofNat 7) (Int32.ofNat 1) = true by decide) ?_
  refine zeP rfl rfl ?_
  refine zeKn (c := 31) rfl rfl rfl ?_
  refine zeP rfl rfl ?_
  refine zeP rfl rfl ?_
  refine zeP rfl rfl ?_
  refine zeP rfl rfl ?_
  refine zeP rfl rfl ?_
  refine zeP rfl rfl ?_
  refine zeP rfl rfl ?_
  refine zeGR rfl rfl zS131 rfl rfl ?_
  refine zeP rfl rfl ?_
  refine zeAL (k := t) rfl rfl zS135 rfl (by omega) ?_
  refine zeCV rfl rfl rfl rfl zS131 rfl (xc_playOutput (m := m) (t := t) (s := (m 135 t)) ) (by omega) ?_
  dsimp only [Option.toList, List.cons_append, List.nil_append]
  exact zeRe rfl rfl rfl (zretB rfl rfl playOutput_o.1) (by rfl) (by rfl)
theorem xc_pd7 {σ : Nat → Nat × (Nat → Int32)} {yy : (Nat → Nat → Int64) × Bool × Nat × Nat} {m : Nat → Nat → Int32} {t : Nat} {q : Nat} (ht : t < 4) : zF σ 2 806 [.ref 131, .int (Int32.ofNat t), .int (Int32.ofNat 7), .int (Int32.ofNat q)] (zS1, m, yy) (.inl (some (.int (x_pd7 m t q).1))) (zS1, ((x_pd7 m t q).2), yy) := by
  intro d hd
  obtain ⟨d, rfl⟩ : ∃ k, d = k + 1 := ⟨d - 1, by omega⟩
  exact xp_pd7 hd ht
def x_playDeed (m : Nat → Nat → Int32) (t K q : Nat) : Int32 × (Nat → Nat → Int32) := match K with
  | 0 => x_pd0 m t q
  | 1 => x_pd1 m t q
  | 2 => x_pd2 m t q
  | 3 => x_pd3 m t q
  | 4 => x_pd4 m t q
  | 5 => x_pd5 m t q
  | 6 => (Int32.ofNat 1, m)
  | _ => x_pd7 m t q
section ZPD
variable {m : Nat → Nat → Int32} {t K q : Nat}
theorem xc_playDeed {σ : Nat → Nat × (Nat → Int32)} {yy : (Nat → Nat → Int64) × Bool × Nat × Nat} (hC : CG m 1) (ht : t < 4) (hK : K ≤ 7) (k1 : K ≤ 1 → q ≤ 3) (k3 : K ≤ 3 → q ≤ 31) : zF σ 2 806 [.ref 131, .int (Int32.ofNat t), .int (Int32.ofNat K), .int (Int32.ofNat q)] (zS1, m, yy) (.inl (some (.int (x_playDeed m t K q).1))) (zS1, (x_playDeed m t K q).2, yy) := by
  match K, hK, k1, k3 with
  | 0, _, k1, _ =>
    have := k1 (by omega)
    exact (xc_pd0 ht (by omega) (hC.w (by omega))).up (by omega)
  | 1, _, k1, _ =>
    have := k1 (by omega)
    exact (xc_pd1 ht (by omega) (hC.w (by omega))).up (by omega)
  | 2, _, _, k3 =>
    have := k3 (by omega)
    exact (xc_pd2 ht (by omega)).up (by omega)
  | 3, _, _, k3 =>
    have := k3 (by omega)
    exact (xc_pd3 ht (by omega)).up (by omega)
  | 4, _, _, _ => exact (xc_pd4 ht).up (by omega)
  | 5, _, _, _ => exact (xc_pd5 ht).up (by omega)
  | 6, _, _, _ => exact (xc_pd6 ht).up (by omega)
  | 7, _, _, _ => exact (xc_pd7 ht).up (by omega)
  | k + 8, h, _, _ => exact absurd h (by omega)
theorem playDeed_o : PDo m (x_playDeed m t K q) := by
  unfold x_playDeed
  split
  · unfold x_pd0
    exact cndi (PDo m) (PDo.p (Or.inl rfl)) PDo.n
  · exact PDo.p (Or.inl rfl)
  · exact PDo.p (Or.inr (Or.inl rfl))
  · exact PDo.p (Or.inl rfl)
  · exact PDo.p (Or.inr (Or.inl rfl))
  · exact PDo.p (Or.inr (Or.inl rfl))
  · exact PDo.y
  · exact playOutput_o
theorem CG.low {m' : Nat → Nat → Int32} (h : CG m 1) (e : ∀ i l, i < 131 → m' i l = m i l) : CG m' 1 := h.same (fun i l hi => e i l (by rcases hi with ⟨e, _⟩ | ⟨e, _⟩ | ⟨t, ht, ⟨e, _⟩ | e⟩ | ⟨l, hl, e, _⟩ <;> omega))
theorem KX.low {m' : Nat → Nat → Int32} {Q : Nat → Prop} (h : KX m 1 Q) (e : ∀ i l, i < 131 → m' i l = m i l) : KX m' 1 Q := h.same (fun i l hi => e i l (by rcases hi with ⟨e, _⟩ | ⟨t, ht, ⟨e, _⟩ | ⟨e, _⟩ | e | e⟩ <;> omega))
theorem PDo.low {X : Int32 × (Nat → Nat → Int32)} (h : PDo m X) : ∀ i l, i < 131 → X.2 i l = m i l := fun i l hi => h.2 i l (by omega) (by omega) (Or.inl (by omega))
end ZPD
def xl_playPL (t : Nat) (en : Nat) : Nat → Nat → (Nat → Nat → Int32) → Int32 × (Nat → Nat → Int32)
  | 0, k, m => ((Int32.ofNat 1), (zm2 m 134 t (Int32.ofNat en)))
  | n + 1, k, m => (bif zc1 .ne (x_playDeed m t ((mv m (1 + 11 + 7 * t) k)) ((mv m (1 + 12 + 7 * t) k))).1 then (xl_playPL t en n ((k + 1)) ((x_playDeed m t ((mv m (1 + 11 + 7 * t) k)) ((mv m (1 + 12 + 7 * t) k))).2)) else ((Int32.ofNat 0), (x_playDeed m t ((mv m (1 + 11 + 7 * t) k)) ((mv m (1 + 12 + 7 * t) k))).2))
theorem xw_playPL {σ : Nat → Nat × (Nat → Int32)} {yy : (Nat → Nat → Int64) × Bool × Nat × Nat} {t : Nat} {en : Nat} {d : Nat} (hd : 3 ≤ d + 1) (ht : t < 4) (hen : en ≤ 24) : ∀ (n : Nat) (k : Nat) (m : Nat → Nat → Int32), k + n = en → CG m 1 → KX m 1 P0 → zEv σ (d + 1) 805 33 [some (.ref 131), some (.int (Int32.ofNat t)), some (.int (Int32.ofNat t)), some (.ref (1 + 10 + 7 * t)), some (.int (Int32.ofNat en)), some (.int (Int32.ofNat k))] [] (zS1, m, yy) (.inl (some (.int (xl_playPL t en n k m).1))) (zS1, ((xl_playPL t en n k m).2), yy) := by
  intro n
  induction n with
  | zero =>
    intro k m hk hC hK
    refine zeP rfl rfl ?_
    refine zeP rfl rfl ?_
    refine zeT2 rfl rfl (zcge (by omega) (by omega) (by omega)) ?_
    refine zeP rfl rfl ?_
    refine zeGR rfl rfl zS131 rfl rfl ?_
    refine zeP rfl rfl ?_
    refine zeP rfl rfl ?_
    refine zeAS (k := t) rfl zS134 rfl (by omega) ?_
    refine zeKn (c := 1) rfl rfl rfl ?_
    exact zeRe rfl rfl rfl rfl (by rfl) (by rfl)
  | succ n ih =>
    intro k m hk hC hK
    refine zeP rfl rfl ?_
    refine zeP rfl rfl ?_
    refine zeF2 rfl rfl (zcge_f (by omega) (by omega) (by omega)) ?_
    refine zeP rfl rfl ?_
    refine zeP rfl rfl ?_
    refine zeP rfl rfl ?_
    refine zeP rfl rfl ?_
    refine zeCV rfl rfl rfl rfl (shS bb1 (by omega)) rfl (xc_kindAt (m := m) (b := 1) (t := t) (p := k) bb1 ht (by omega)) (by omega) ?_
    dsimp only [Option.toList, List.cons_append, List.nil_append]
    rw [(show x_kindAt m 1 t k = Int32.ofNat (mv m (1 + 11 + 7 * t) k) from ((hK.1 t ht).2.2.2.2 k (by omega)).1.1)]
    refine zeP rfl rfl ?_
    refine zeP rfl rfl ?_
    refine zeCV rfl rfl rfl rfl (shS bb1 (by omega)) rfl (xc_numberAt (m := m) (b := 1) (t := t) (p := k) bb1 ht (by omega)) (by omega) ?_
    dsimp only [Option.toList, List.cons_append, List.nil_append]
    rw [(show x_numberAt m 1 t k = Int32.ofNat (mv m (1 + 12 + 7 * t) k) from ((hK.1 t ht).2.2.2.2 k (by omega)).2.1.1)]
    refine zeCV rfl rfl rfl rfl zS131 rfl (xc_playDeed (m := m) (t := t) (K := (mv m (1 + 11 + 7 * t) k)) (q := (mv m (1 + 12 + 7 * t) k)) hC ht ((hK.1 t ht).2.2.2.2 k (by omega)).1.2 ((hK.1 t ht).2.2.2.2 k (by omega)).2.2.1 ((hK.1 t ht).2.2.2.2 k (by omega)).2.2.2) (by omega) ?_
    dsimp only [Option.toList, List.cons_append, List.nil_append]
    refine zeB1 rfl rfl (fun h1 => ?_) (fun h1 => ?_)
    · refine zeInc rfl rfl ?_
      refine zeP rfl rfl ?_
      simp only [xl_playPL, h1, cond_true, cond_false]
      exact ih ((k + 1))  ((x_playDeed m t ((mv m (1 + 11 + 7 * t) k)) ((mv m (1 + 12 + 7 * t) k))).2) (by omega) (hC.low (playDeed_o (m := m) (t := t) (K := mv m (1 + 11 + 7 * t) k) (q := mv m (1 + 12 + 7 * t) k)).low) (hK.low (playDeed_o (m := m) (t := t) (K := mv m (1 + 11 + 7 * t) k) (q := mv m (1 + 12 + 7 * t) k)).low)
    · refine zeKn (c := 0) rfl rfl rfl ?_
      exact zeRe rfl rfl rfl rfl (by simp only [xl_playPL, h1, cond_true, cond_false] <;> rfl) (by simp only [xl_playPL, h1, cond_true, cond_false] <;> rfl)
def x_playPart (m : Nat → Nat → Int32) (t : Nat) : Int32 × (Nat → Nat → Int32) := (xl_playPL t ((pen m 1 t (mv m 134 t))) ((pen m 1 t (mv m 134 t) - mv m 134 t)) ((mv m 134 t)) m)
theorem xp_playPart {σ : Nat → Nat × (Nat → Int32)} {yy : (Nat → Nat → Int64) × Bool × Nat × Nat} {m : Nat → Nat → Int32} {t : Nat} {d : Nat} (hd : 4 ≤ d + 1) (ht : t < 4) (hC : CG m 1) (hK : KX m 1 P0) (hP : okm m 134 t 24) (hpl : mv m 134 t < mv m (1 + 10 + 7 * t) 2) : zEv σ (d + 1) 805 0 [some (.ref 131), some (.int (Int32.ofNat t)), none, none, none, none] [] (zS1, m, yy) (.inl (some (.int (x_playPart m t).1))) (zS1, ((x_playPart m t).2), yy) := by
  refine zeP rfl rfl ?_
  refine zeKn (c := 3) rfl rfl rfl ?_
  refine zeON (c := t) rfl rfl (zand3 (by omega)) ?_
  refine zeP rfl rfl ?_
  refine zeP rfl rfl ?_
  refine zeGR rfl rfl zS131 rfl rfl ?_
  refine zeP rfl rfl ?_
  refine zeCV rfl rfl rfl rfl (shM bb1) rfl (xc_strandAt (m := m) (b := 1) (t := t) bb1 ht) (by omega) ?_
  dsimp only [Option.toList, List.cons_append, List.nil_append]
  refine zeP rfl rfl ?_
  refine zeP rfl rfl ?_
  refine zeP rfl rfl ?_
  refine zeGR rfl rfl zS131 rfl rfl ?_
  refine zeP rfl rfl ?_
  refine zeAL (k := t) rfl rfl zS134 rfl (by omega) ?_
  rw [hP.1]
  refine zeCV rfl rfl rfl rfl (shS bb1 (by omega)) rfl (xc_partEnd (m := m) (b := 1) (t := t) (p := (mv m 134 t)) bb1 ht (hK.1 t ht) hpl) (by omega) ?_
  dsimp only [Option.toList, List.cons_append, List.nil_append]
  rw [(pe_n (hK.1 t ht) hpl).1]
  refine zeP rfl rfl ?_
  have hpe := (pe_n (hK.1 t ht) hpl).2
  have h24 := (hK.1 t ht).1.2
  refine zeP rfl rfl ?_
  refine zeGR rfl rfl zS131 rfl rfl ?_
  refine zeP rfl rfl ?_
  refine zeAL (k := t) rfl rfl zS134 rfl (by omega) ?_
  rw [hP.1]
  refine zeP rfl rfl ?_
  simp only [x_playPart, cond_true, cond_false]
  exact xw_playPL (t := t) (en := (pen m 1 t (mv m 134 t))) (by omega) ht (by omega) ((pen m 1 t (mv m 134 t) - mv m 134 t)) ((mv m 134 t))  m (by omega) hC hK
theorem xc_playPart {σ : Nat → Nat × (Nat → Int32)} {yy : (Nat → Nat → Int64) × Bool × Nat × Nat} {m : Nat → Nat → Int32} {t : Nat} (ht : t < 4) (hC : CG m 1) (hK : KX m 1 P0) (hP : okm m 134 t 24) (hpl : mv m 134 t < mv m (1 + 10 + 7 * t) 2) : zF σ 4 805 [.ref 131, .int (Int32.ofNat t)] (zS1, m, yy) (.inl (some (.int (x_playPart m t).1))) (zS1, ((x_playPart m t).2), yy) := by
  intro d hd
  obtain ⟨d, rfl⟩ : ∃ k, d = k + 1 := ⟨d - 1, by omega⟩
  exact xp_playPart hd ht hC hK hP hpl
def xl_cameL (m : Nat → Nat → Int32) : Nat → Nat → Int32
  | 0, k => (Int32.ofNat 1)
  | n + 1, k => (bif zc2 .eq (m 132 k) (m ((1 + 1)) k) then (xl_cameL m n ((k + 1))) else (Int32.ofNat 0))
theorem xw_cameL {σ : Nat → Nat × (Nat → Int32)} {yy : (Nat → Nat → Int64) × Bool × Nat × Nat} {m : Nat → Nat → Int32} {d : Nat} (hd : 1 ≤ d + 1) : ∀ (n : Nat) (k : Nat), k + n = 32 → zEv σ (d + 1) 808 18 [some (.ref 131), some (.int (Int32.ofNat k))] [] (zS1, m, yy) (.inl (some (.int (xl_cameL m n k)))) (zS1, m, yy) := by
  intro n
  induction n with
  | zero =>
    intro k hk
    refine zeP rfl rfl ?_
    refine zeKn (c := 32) rfl rfl rfl ?_
    refine zeT2 rfl rfl (zcge (by omega) (by omega) (by omega)) ?_
    refine zeKn (c := 1) rfl rfl rfl ?_
    exact zeRe rfl rfl rfl rfl (by rfl) (by rfl)
  | succ n ih =>
    intro k hk
    refine zeP rfl rfl ?_
    refine zeKn (c := 32) rfl rfl rfl ?_
    refine zeF2 rfl rfl (zcge_f (by omega) (by omega) (by omega)) ?_
    refine zeP rfl rfl ?_
    refine zeGR rfl rfl zS131 rfl rfl ?_
    refine zeP rfl rfl ?_
    refine zeAL (k := k) rfl rfl zS132 rfl (by omega) ?_
    refine zeP rfl rfl ?_
    refine zeGR rfl rfl zS131 rfl rfl ?_
    refine zeGR rfl rfl (shM bb1) rfl rfl ?_
    refine zeP rfl rfl ?_
    refine zeAL (k := k) rfl rfl (shW bb1) rfl (by omega) ?_
    refine zeB2 rfl rfl (fun h1 => ?_) (fun h1 => ?_)
    · refine zeInc rfl rfl ?_
      refine zeP rfl rfl ?_
      simp only [xl_cameL, h1, cond_true, cond_false]
      exact ih ((k + 1))   (by omega) 
    · refine zeKn (c := 0) rfl rfl rfl ?_
      exact zeRe rfl rfl rfl rfl (by simp only [xl_cameL, h1, cond_true, cond_false] <;> rfl) (by simp only [xl_cameL, h1, cond_true, cond_false] <;> rfl)
def x_cameOut (m : Nat → Nat → Int32) : Int32 := (bif zc2 .eq (m 131 6) (m 1 12) then (xl_cameL m 32 0) else (Int32.ofNat 0))
theorem xp_cameOut {σ : Nat → Nat × (Nat → Int32)} {yy : (Nat → Nat → Int64) × Bool × Nat × Nat} {m : Nat → Nat → Int32} {d : Nat} (hd : 1 ≤ d + 1) : zEv σ (d + 1) 808 0 [some (.ref 131), none] [] (zS1, m, yy) (.inl (some (.int (x_cameOut m)))) (zS1, m, yy) := by
  refine zeP rfl rfl ?_
  refine zeGI rfl rfl zS131 rfl rfl ?_
  refine zeP rfl rfl ?_
  refine zeGR rfl rfl zS131 rfl rfl ?_
  refine zeGI rfl rfl (shM bb1) rfl rfl ?_
  refine zeB2 rfl rfl (fun h1 => ?_) (fun h1 => ?_)
  · refine zeKn (c := 0) rfl rfl rfl ?_
    refine zeP rfl rfl ?_
    simp only [x_cameOut, h1, cond_true, cond_false]
    exact xw_cameL  (m := m) (by omega)  32 (0)   (by omega) 
  · refine zeKn (c := 0) rfl rfl rfl ?_
    exact zeRe rfl rfl rfl rfl (by simp only [x_cameOut, h1, cond_true, cond_false] <;> rfl) (by simp only [x_cameOut, h1, cond_true, cond_false] <;> rfl)
theorem xc_cameOut {σ : Nat → Nat × (Nat → Int32)} {yy : (Nat → Nat → Int64) × Bool × Nat × Nat} {m : Nat → Nat → Int32} : zF σ 1 808 [.ref 131] (zS1, m, yy) (.inl (some (.int (x_cameOut m)))) (zS1, m, yy) := by
  intro d hd
  obtain ⟨d, rfl⟩ : ∃ k, d = k + 1 := ⟨d - 1, by omega⟩
  exact xp_cameOut hd 
section ZPP
variable {m : Nat → Nat → Int32} {t n5 : Nat}
/-- the machine in order, the places of the search numbers -/
def OJ (m : Nat → Nat → Int32) (n5 : Nat) : Prop := CG m 1 ∧ KX m 1 P0 ∧ (∀ u, u < 4 → okm m 134 u 24) ∧ m 1 5 = Int32.ofNat n5
theorem OJ.of {m' : Nat → Nat → Int32} (h : OJ m n5) (e : ∀ i l, i < 131 → m' i l = m i l) (ei : ∀ u, u < 4 → okm m' 134 u 24) : OJ m' n5 := ⟨h.1.low e, h.2.1.low e, ei, (e 1 5 (by omega)).trans h.2.2.2⟩
/-- what a search leaves alone -/
def OF3 (m : Nat → Nat → Int32) (X : Int32 × (Nat → Nat → Int32)) : Prop := (X.1 = 0 ∨ X.1 = 1) ∧ (∀ i l, i < 131 ∨ 137 ≤ i → X.2 i l = m i l) ∧ (∀ l, l ≠ 6 → X.2 131 l = m 131 l) ∧ ∀ u, u < 4 → okm X.2 134 u 24
theorem playPL_o {en : Nat} (ht : t < 4) (hen : en ≤ 24) : ∀ (n k : Nat) (m : Nat → Nat → Int32), k + n = en → (∀ u, u < 4 → okm m 134 u 24) → OF3 m (xl_playPL t en n k m) := by
  intro n
  induction n with
  | zero =>
    intro k m hk hi
    refine ⟨Or.inr rfl, fun i l h => (show zm2 m 134 t (Int32.ofNat en) i l = m i l from zx_ne _ _ _ (by omega)), fun l _ => (show zm2 m 134 t (Int32.ofNat en) 131 l = m 131 l from zx_ne _ _ _ (by omega)), fun u hu => ?_⟩
    show okm (zm2 m 134 t (Int32.ofNat en)) 134 u 24
    by_cases e : u = t
    · subst e
      exact okm.is (zx_at _ _ _ _) hen (by omega)
    · exact (hi u hu).of (zx_nk _ _ e)
  | succ n ih =>
    intro k m hk hi
    have o : PDo m (x_playDeed m t (mv m (1 + 11 + 7 * t) k) (mv m (1 + 12 + 7 * t) k)) := playDeed_o
    rw [xl_playPL]
    generalize x_playDeed m t (mv m (1 + 11 + 7 * t) k) (mv m (1 + 12 + 7 * t) k) = X at o ⊢
    have hi2 : ∀ u, u < 4 → okm X.2 134 u 24 := fun u hu => (hi u hu).of (o.2 _ _ (by omega) (by omega) (Or.inl (by omega)))
    have c1 : ∀ i l, i < 131 ∨ 137 ≤ i → X.2 i l = m i l := fun i l h => o.2 i l (by omega) (by omega) (Or.inl (by omega))
    have c2 : ∀ l, l ≠ 6 → X.2 131 l = m 131 l := fun l h => o.2 131 l (by omega) (by omega) (Or.inr h)
    obtain ⟨a1, a2, a3, a4⟩ := ih (k + 1) X.2 (by omega) hi2
    exact cndi (OF3 m) ⟨a1, fun i l h => (a2 i l h).trans (c1 i l h), fun l h => (a3 l h).trans (c2 l h), a4⟩ ⟨Or.inl rfl, c1, c2, hi2⟩
theorem playPart_o (hj : OJ m n5) (ht : t < 4) (hpl : mv m 134 t < mv m (1 + 10 + 7 * t) 2) : OF3 m (x_playPart m t) := by
  have hpe := (pe_n (hj.2.1.1 t ht) hpl).2
  have h24 := (hj.2.1.1 t ht).1.2
  exact playPL_o ht (by omega) _ _ _ (by omega) hj.2.2.1
theorem OF3.j {X : Int32 × (Nat → Nat → Int32)} (h : OF3 m X) (hj : OJ m n5) : OJ X.2 n5 := hj.of (fun i l hi => h.2.1 i l (Or.inl hi)) h.2.2.2
theorem pl_far {k : Nat} {x : Int32} (ht : t < 4) (h : mv m 134 t < mv m (1 + 10 + 7 * t) 2) : mv (zm2 m 136 k x) 134 t < mv (zm2 m 136 k x) (1 + 10 + 7 * t) 2 := by
  unfold mv at *
  rw [zx_ne _ _ _ (by omega), zx_ne _ _ _ (by omega)]
  exact h
theorem OJ.far {a k : Nat} {x : Int32} (h : OJ m n5) (ha : 131 ≤ a) (h4 : a ≠ 134) : OJ (zm2 m a k x) n5 := h.of (fun i l hi => zx_ne _ _ _ (by omega)) (fun u hu => (h.2.2.1 u hu).of (zx_ne _ _ _ (by omega)))
/-- a try taken back -/
def rst (m M : Nat → Nat → Int32) (k t : Nat) (o : Int32) : Nat → Nat → Int32 := zm2 (zm2 (zm2 (zcpy M 133 132 (k * 32) 0 32) 134 t (Int32.ofNat (mv m 134 t))) 135 t (m 135 t)) 131 6 o
theorem rst_j {M : Nat → Nat → Int32} {k : Nat} {o : Int32} (hj : OJ m n5) (h : OJ M n5) (ht : t < 4) : OJ (rst m M k t o) n5 := by
  unfold rst
  refine OJ.far (OJ.far (h.of (fun i l hi => ?_) (fun u hu => ?_)) (by omega) (by omega)) (by omega) (by omega)
  · rw [zx_ne _ _ _ (by omega), zcpy_ne (by omega)]
  · by_cases e : u = t
    · subst e
      exact okm.is (zx_at _ _ _ _) (hj.2.2.1 u hu).2 (by have := (hj.2.2.1 u hu).2; omega)
    · exact (h.2.2.1 u hu).of ((zx_nk _ _ e).trans (zcpy_ne (by omega)))
end ZPP
def xl_placeL (k : Nat) (o : Int32) (n5 : Nat) (rec : ((Nat → Nat → Int32) → Int32 × (Nat → Nat → Int32))) : Nat → Nat → (Nat → Nat → Int32) → Int32 × (Nat → Nat → Int32)
  | 0, t, m => ((Int32.ofNat 0), m)
  | n + 1, t, m => (bif zc2 .lt (Int32.ofNat (mv m 134 t)) (Int32.ofNat (mv m (1 + 10 + 7 * t) 2)) then (bif zc1 .eq (x_playPart ((zm2 m 136 k (Int32.ofNat t))) t).1 then (xl_placeL k o n5 rec n ((t + 1)) ((zm2 ((zm2 ((zm2 ((zcpy ((x_playPart ((zm2 m 136 k (Int32.ofNat t))) t).2) 133 132 ((k * 32)) 0 32)) 134 t (Int32.ofNat (mv m 134 t)))) 135 t (m 135 t))) 131 6 o))) else (bif zc1 .eq (rec ((x_playPart ((zm2 m 136 k (Int32.ofNat t))) t).2)).1 then (xl_placeL k o n5 rec n ((t + 1)) ((zm2 ((zm2 ((zm2 ((zcpy ((rec ((x_playPart ((zm2 m 136 k (Int32.ofNat t))) t).2)).2) 133 132 ((k * 32)) 0 32)) 134 t (Int32.ofNat (mv m 134 t)))) 135 t (m 135 t))) 131 6 o))) else ((Int32.ofNat 1), (rec ((x_playPart ((zm2 m 136 k (Int32.ofNat t))) t).2)).2))) else (xl_placeL k o n5 rec n ((t + 1)) m))
theorem xw_placeL {σ : Nat → Nat × (Nat → Int32)} {yy : (Nat → Nat → Int64) × Bool × Nat × Nat} {k : Nat} {o : Int32} {n5 : Nat} {rec : ((Nat → Nat → Int32) → Int32 × (Nat → Nat → Int32))} {hr : Nat} {d : Nat} (hd : 5 ≤ d + 1) (hk9 : k < 10) (hn5 : n5 ≤ 4) (hd2 : hr + 1 ≤ d + 1) (hrec : ∀ m', OJ m' n5 → zF σ hr 804 [.ref 131, .int (Int32.ofNat (k + 1))] (zS1, m', yy) (.inl (some (.int (rec m').1))) (zS1, (rec m').2, yy) ∧ OF3 m' (rec m')) : ∀ (n : Nat) (t : Nat) (x4 : Option Value) (x5 : Option Value) (m : Nat → Nat → Int32), t + n = n5 → OJ m n5 → zEv σ (d + 1) 804 48 [some (.ref 131), some (.int (Int32.ofNat k)), some (.int o), some (.int (Int32.ofNat t)), x4, x5] [] (zS1, m, yy) (.inl (some (.int (xl_placeL k o n5 rec n t m).1))) (zS1, ((xl_placeL k o n5 rec n t m).2), yy) := by
  intro n
  induction n with
  | zero =>
    intro t x4 x5 m hk hj
    refine zeP rfl rfl ?_
    refine zeP rfl rfl ?_
    refine zeGR rfl rfl zS131 rfl rfl ?_
    refine zeGI rfl rfl (shM bb1) rfl rfl ?_
    rw [hj.2.2.2]
    refine zeT2 rfl rfl (zcge (by omega) (by omega) (by omega)) ?_
    refine zeKn (c := 0) rfl rfl rfl ?_
    exact zeRe rfl rfl rfl rfl (by rfl) (by rfl)
  | succ n ih =>
    intro t x4 x5 m hk hj
    refine zeP rfl rfl ?_
    refine zeP rfl rfl ?_
    refine zeGR rfl rfl zS131 rfl rfl ?_
    refine zeGI rfl rfl (shM bb1) rfl rfl ?_
    rw [hj.2.2.2]
    refine zeF2 rfl rfl (zcge_f (by omega) (by omega) (by omega)) ?_
    refine zeP rfl rfl ?_
    refine zeKn (c := 4) rfl rfl rfl ?_
    refine zeF2 rfl rfl (zcge_f (by omega) (by omega) (by omega)) ?_
    refine zeP rfl rfl ?_
    refine zeGR rfl rfl zS131 rfl rfl ?_
    refine zeP rfl rfl ?_
    refine zeAL (k := t) rfl rfl zS134 rfl (by omega) ?_
    rw [(hj.2.2.1 t (by omega)).1]
    refine zeP rfl rfl ?_
    refine zeP rfl rfl ?_
    refine zeGR rfl rfl zS131 rfl rfl ?_
    refine zeP rfl rfl ?_
    refine zeAL (k := t) rfl rfl zS135 rfl (by omega) ?_
    refine zeP rfl rfl ?_
    refine zeP rfl rfl ?_
    refine zeP rfl rfl ?_
    refine zeGR rfl rfl zS131 rfl rfl ?_
    refine zeP rfl rfl ?_
    refine zeCV rfl rfl rfl rfl (shM bb1) rfl (xc_strandAt (m := m) (b := 1) (t := t) bb1 (by omega)) (by omega) ?_
    dsimp only [Option.toList, List.cons_append, List.nil_append]
    refine zeGI rfl rfl (shS bb1 (by omega)) rfl rfl ?_
    rw [(hj.2.1.1 t (by omega)).1.1]
    refine zeB2 rfl rfl (fun h1 => ?_) (fun h1 => ?_)
    · refine zeP rfl rfl ?_
      refine zeGR rfl rfl zS131 rfl rfl ?_
      refine zeP rfl rfl ?_
      refine zeP rfl rfl ?_
      refine zeAS (k := k) rfl zS136 rfl (by omega) ?_
      refine zeP rfl rfl ?_
      refine zeP rfl rfl ?_
      refine zeCV rfl rfl rfl rfl zS131 rfl (xc_playPart (m := (zm2 m 136 k (Int32.ofNat t))) (t := t) (by omega) (hj.far (by omega) (by omega)).1 (hj.far (by omega) (by omega)).2.1 ((hj.far (by omega) (by omega)).2.2.1 t (by omega)) (pl_far (by omega) (zlt_t (by have := (hj.2.2.1 t (by omega)).2; omega) (by have := (hj.2.1.1 t (by omega)).1.2; omega) h1))) (by omega) ?_
      dsimp only [Option.toList, List.cons_append, List.nil_append]
      refine zeB1 rfl rfl (fun h2 => ?_) (fun h2 => ?_)
      · refine zeP rfl rfl ?_
        refine zeGR rfl rfl zS131 rfl rfl ?_
        refine zeP rfl rfl ?_
        refine zeKn (c := 32) rfl rfl rfl ?_
        refine zeMul rfl ?_
        refine zeP rfl rfl ?_
        refine zeGR rfl rfl zS131 rfl rfl ?_
        refine zeKn (c := 0) rfl rfl rfl ?_
        refine zeKn (c := 32) rfl rfl rfl ?_
        refine zeCPY rfl rfl zS133 zS132 (by omega) (by omega) (by omega) (by omega) rfl ?_
        refine zeP rfl rfl ?_
        refine zeGR rfl rfl zS131 rfl rfl ?_
        refine zeP rfl rfl ?_
        refine zeP rfl rfl ?_
        refine zeAS (k := t) rfl zS134 rfl (by omega) ?_
        refine zeP rfl rfl ?_
        refine zeGR rfl rfl zS131 rfl rfl ?_
        refine zeP rfl rfl ?_
        refine zeP rfl rfl ?_
        refine zeAS (k := t) rfl zS135 rfl (by omega) ?_
        refine zeP rfl rfl ?_
        refine zeP rfl rfl ?_
        refine zePI rfl rfl zS131 rfl ?_
        refine zeInc rfl rfl ?_
        refine zeP rfl rfl ?_
        simp only [xl_placeL, h1, h2, cond_true, cond_false]
        exact ih ((t + 1)) (some (.int (Int32.ofNat (mv m 134 t)))) (some (.int (m 135 t)))  ((zm2 ((zm2 ((zm2 ((zcpy ((x_playPart ((zm2 m 136 k (Int32.ofNat t))) t).2) 133 132 ((k * 32)) 0 32)) 134 t (Int32.ofNat (mv m 134 t)))) 135 t (m 135 t))) 131 6 o)) (by omega) (rst_j hj (OF3.j (playPart_o (t := t) (hj.far (a := 136) (k := k) (x := Int32.ofNat t) (by omega) (by omega)) (by omega) (pl_far (by omega) (zlt_t (by have := (hj.2.2.1 t (by omega)).2; omega) (by have := (hj.2.1.1 t (by omega)).1.2; omega) h1))) (hj.far (by omega) (by omega))) (by omega))
      · refine zeP rfl rfl ?_
        refine zeP rfl rfl ?_
        refine zeKn (c := 1) rfl rfl rfl ?_
        refine zeAdd rfl ?_
        refine zeCV rfl rfl rfl rfl zS131 rfl ((hrec ((x_playPart ((zm2 m 136 k (Int32.ofNat t))) t).2) (OF3.j (playPart_o (t := t) (hj.far (a := 136) (k := k) (x := Int32.ofNat t) (by omega) (by omega)) (by omega) (pl_far (by omega) (zlt_t (by have := (hj.2.2.1 t (by omega)).2; omega) (by have := (hj.2.1.1 t (by omega)).1.2; omega) h1))) (hj.far (by omega) (by omega)))).1) (by omega) ?_
        dsimp only [Option.toList, List.cons_append, List.nil_append]
        refine zeB1 rfl rfl (fun h3 => ?_) (fun h3 => ?_)
        · refine zeP rfl rfl ?_
          refine zeGR rfl rfl zS131 rfl rfl ?_
          refine zeP rfl rfl ?_
          refine zeKn (c := 32) rfl rfl rfl ?_
          refine zeMul rfl ?_
          refine zeP rfl rfl ?_
          refine zeGR rfl rfl zS131 rfl rfl ?_
          refine zeKn (c := 0) rfl rfl rfl ?_
          refine zeKn (c := 32) rfl rfl rfl ?_
          refine zeCPY rfl rfl zS133 zS132 (by omega) (by omega) (by omega) (by omega) rfl ?_
          refine zeP rfl rfl ?_
          refine zeGR rfl rfl zS131 rfl rfl ?_
          refine zeP rfl rfl ?_
          refine zeP rfl rfl ?_
          refine zeAS (k := t) rfl zS134 rfl (by omega) ?_
          refine zeP rfl rfl ?_
          refine zeGR rfl rfl zS131 rfl rfl ?_
          refine zeP rfl rfl ?_
          refine zeP rfl rfl ?_
          refine zeAS (k := t) rfl zS135 rfl (by omega) ?_
          refine zeP rfl rfl ?_
          refine zeP rfl rfl ?_
          refine zePI rfl rfl zS131 rfl ?_
          refine zeInc rfl rfl ?_
          refine zeP rfl rfl ?_
          simp only [xl_placeL, h1, h2, h3, cond_true, cond_false]
          exact ih ((t + 1)) (some (.int (Int32.ofNat (mv m 134 t)))) (some (.int (m 135 t)))  ((zm2 ((zm2 ((zm2 ((zcpy ((rec ((x_playPart ((zm2 m 136 k (Int32.ofNat t))) t).2)).2) 133 132 ((k * 32)) 0 32)) 134 t (Int32.ofNat (mv m 134 t)))) 135 t (m 135 t))) 131 6 o)) (by omega) (rst_j hj (OF3.j (hrec _ (OF3.j (playPart_o (t := t) (hj.far (a := 136) (k := k) (x := Int32.ofNat t) (by omega) (by omega)) (by omega) (pl_far (by omega) (zlt_t (by have := (hj.2.2.1 t (by omega)).2; omega) (by have := (hj.2.1.1 t (by omega)).1.2; omega) h1))) (hj.far (by omega) (by omega)))).2 (OF3.j (playPart_o (t := t) (hj.far (a := 136) (k := k) (x := Int32.ofNat t) (by omega) (by omega)) (by omega) (pl_far (by omega) (zlt_t (by have := (hj.2.2.1 t (by omega)).2; omega) (by have := (hj.2.1.1 t (by omega)).1.2; omega) h1))) (hj.far (by omega) (by omega)))) (by omega))
        · refine zeKn (c := 1) rfl rfl rfl ?_
          exact zeRe rfl rfl rfl rfl (by simp only [xl_placeL, h1, h2, h3, cond_true, cond_false] <;> rfl) (by simp only [xl_placeL, h1, h2, h3, cond_true, cond_false] <;> rfl)
    · refine zeP rfl rfl ?_
      refine zeInc rfl rfl ?_
      refine zeP rfl rfl ?_
      simp only [xl_placeL, h1, cond_true, cond_false]
      exact ih ((t + 1)) (some (.int (Int32.ofNat (mv m 134 t)))) (some (.int (m 135 t)))  m (by omega) hj
theorem zclt_f {a b : Nat} (ha : a < 2147483648) (hb : b < 2147483648) (h : b ≤ a) : zc2 .lt (Int32.ofNat a) (Int32.ofNat b) = false := by
  apply decide_eq_false
  rw [Int32.lt_iff_toInt_lt, zoN ha, zoN hb]
  omega
theorem cameL_b {m : Nat → Nat → Int32} : ∀ (n k : Nat), xl_cameL m n k = 0 ∨ xl_cameL m n k = 1 := by
  intro n
  induction n with
  | zero => intro k; exact Or.inr rfl
  | succ n ih => intro k; rw [xl_cameL]; exact cndi (fun X : Int32 => X = 0 ∨ X = 1) (ih _) (Or.inl rfl)
theorem cameOut_b {m : Nat → Nat → Int32} : x_cameOut m = 0 ∨ x_cameOut m = 1 := by
  unfold x_cameOut
  exact cndi (fun X : Int32 => X = 0 ∨ X = 1) (cameL_b _ _) (Or.inl rfl)
def x_placeE (m : Nat → Nat → Int32) (k : Nat) : Int32 := (bif zc2 .ge (Int32.ofNat k) (m 131 7) then (x_cameOut m) else (x_cameOut m))
theorem xp_placeE {σ : Nat → Nat × (Nat → Int32)} {yy : (Nat → Nat → Int64) × Bool × Nat × Nat} {m : Nat → Nat → Int32} {k : Nat} {d : Nat} (hd : 2 ≤ d + 1) (hk10 : k = 10) : zEv σ (d + 1) 804 0 [some (.ref 131), some (.int (Int32.ofNat k)), none, none, none, none] [] (zS1, m, yy) (.inl (some (.int (x_placeE m k)))) (zS1, m, yy) := by
  refine zeP rfl rfl ?_
  refine zeF1 rfl rfl (c1lt (by omega)) ?_
  refine zeP rfl rfl ?_
  refine zeP rfl rfl ?_
  refine zeGI rfl rfl zS131 rfl rfl ?_
  refine zeB2 rfl rfl (fun h1 => ?_) (fun h1 => ?_)
  · refine zeP rfl rfl ?_
    refine zeCV rfl rfl rfl rfl zS131 rfl (xc_cameOut (m := m)  ) (by omega) ?_
    dsimp only [Option.toList, List.cons_append, List.nil_append]
    exact zeRe rfl rfl rfl (zretB rfl rfl cameOut_b) (by simp only [x_placeE, h1, cond_true, cond_false] <;> rfl) (by simp only [x_placeE, h1, cond_true, cond_false] <;> rfl)
  · refine zeP rfl rfl ?_
    refine zeKn (c := 10) rfl rfl rfl ?_
    refine zeF2 rfl rfl (zclt_f (by omega) (by omega) (by omega)) ?_
    refine zeP rfl rfl ?_
    refine zeCV rfl rfl rfl rfl zS131 rfl (xc_cameOut (m := m)  ) (by omega) ?_
    dsimp only [Option.toList, List.cons_append, List.nil_append]
    exact zeRe rfl rfl rfl (zretB rfl rfl cameOut_b) (by simp only [x_placeE, h1, cond_true, cond_false] <;> rfl) (by simp only [x_placeE, h1, cond_true, cond_false] <;> rfl)
theorem OJ.cpy {m : Nat → Nat → Int32} {n5 k : Nat} (h : OJ m n5) : OJ (zcpy m 132 133 0 (k * 32) 32) n5 := h.of (fun i l hi => zcpy_ne (by omega)) (fun u hu => (h.2.2.1 u hu).of (zcpy_ne (by omega)))
def x_placeN (m : Nat → Nat → Int32) (k : Nat) (n5 : Nat) (rec : ((Nat → Nat → Int32) → Int32 × (Nat → Nat → Int32))) : Int32 × (Nat → Nat → Int32) := (bif zc2 .ge (Int32.ofNat k) (m 131 7) then ((x_cameOut m), m) else (xl_placeL k ((((zcpy m 132 133 0 ((k * 32)) 32)) 131 6)) n5 rec n5 0 ((zcpy m 132 133 0 ((k * 32)) 32))))
theorem xp_placeN {σ : Nat → Nat × (Nat → Int32)} {yy : (Nat → Nat → Int64) × Bool × Nat × Nat} {m : Nat → Nat → Int32} {k : Nat} {n5 : Nat} {rec : ((Nat → Nat → Int32) → Int32 × (Nat → Nat → Int32))} {hr : Nat} {d : Nat} (hd : 5 ≤ d + 1) (hk9 : k < 10) (hn5 : n5 ≤ 4) (hd2 : hr + 1 ≤ d + 1) (hrec : ∀ m', OJ m' n5 → zF σ hr 804 [.ref 131, .int (Int32.ofNat (k + 1))] (zS1, m', yy) (.inl (some (.int (rec m').1))) (zS1, (rec m').2, yy) ∧ OF3 m' (rec m')) (hj : OJ m n5) : zEv σ (d + 1) 804 0 [some (.ref 131), some (.int (Int32.ofNat k)), none, none, none, none] [] (zS1, m, yy) (.inl (some (.int (x_placeN m k n5 rec).1))) (zS1, ((x_placeN m k n5 rec).2), yy) := by
  refine zeP rfl rfl ?_
  refine zeF1 rfl rfl (c1lt (by omega)) ?_
  refine zeP rfl rfl ?_
  refine zeP rfl rfl ?_
  refine zeGI rfl rfl zS131 rfl rfl ?_
  refine zeB2 rfl rfl (fun h1 => ?_) (fun h1 => ?_)
  · refine zeP rfl rfl ?_
    refine zeCV rfl rfl rfl rfl zS131 rfl (xc_cameOut (m := m)  ) (by omega) ?_
    dsimp only [Option.toList, List.cons_append, List.nil_append]
    exact zeRe rfl rfl rfl (zretB rfl rfl cameOut_b) (by simp only [x_placeN, h1, cond_true, cond_false] <;> rfl) (by simp only [x_placeN, h1, cond_true, cond_false] <;> rfl)
  · refine zeP rfl rfl ?_
    refine zeKn (c := 10) rfl rfl rfl ?_
    refine zeT2 rfl rfl (zclt (by omega) (by omega) (by omega)) ?_
    refine zeP rfl rfl ?_
    refine zeGR rfl rfl zS131 rfl rfl ?_
    refine zeKn (c := 0) rfl rfl rfl ?_
    refine zeP rfl rfl ?_
    refine zeGR rfl rfl zS131 rfl rfl ?_
    refine zeP rfl rfl ?_
    refine zeKn (c := 32) rfl rfl rfl ?_
    refine zeMul rfl ?_
    refine zeKn (c := 32) rfl rfl rfl ?_
    refine zeCPY rfl rfl zS132 zS133 (by omega) (by omega) (by omega) (by omega) rfl ?_
    refine zeP rfl rfl ?_
    refine zeGI rfl rfl zS131 rfl rfl ?_
    refine zeP rfl rfl ?_
    refine zeKn (c := 0) rfl rfl rfl ?_
    refine zeP rfl rfl ?_
    simp only [x_placeN, h1, cond_true, cond_false]
    exact xw_placeL (k := k) (o := (((zcpy m 132 133 0 ((k * 32)) 32)) 131 6)) (n5 := n5) (rec := rec) (hr := hr) (by omega) hk9 hn5 hd2 hrec n5 (0) (none) (none)  ((zcpy m 132 133 0 ((k * 32)) 32)) (by omega) (hj.cpy)
