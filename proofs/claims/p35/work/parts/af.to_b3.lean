/-! af.text ag.ref b0.kx b1.cls b2.cls b3.cls -/
section
/-! the reference's text of a thread: that it ends, and what it leaves alone -/
noncomputable def PT (m m' : Nat → Nat → Int32) (w : Nat) : Prop := (∀ i, i ≠ 137 → i ≠ 145 → m' i = m i) ∧ (∀ k, k ≠ 16 → m' 137 k = m 137 k) ∧ m' 137 16 = Int32.ofNat w
theorem PT.tr {a b c : Nat → Nat → Int32} {v w : Nat} (h : PT a b v) (g : PT b c w) : PT a c w := ⟨fun i h1 h2 => (g.1 i h1 h2).trans (h.1 i h1 h2), fun k hk => (g.2.1 k hk).trans (h.2.1 k hk), g.2.2⟩
theorem PT.byte (m : Nat → Nat → Int32) (w : Nat) (x : Int32) : PT m (zm2 (zm2 m 145 w x) 137 16 (Int32.ofNat (w + 1))) (w + 1) :=
  ⟨fun i h1 h2 => by rw [zm2_i _ _ h1, zm2_i _ _ h2], fun k hk => by rw [zm2_k _ _ hk, zm2_i _ _ (by decide)], zm2_a _ _ _ _⟩
theorem zS145 : zS1[145]? = some (11, 400, []) := rfl
section ZTX
variable {σ : Nat → Nat × (Nat → Int32)} {yy : (Nat → Nat → Int64) × Bool × Nat × Nat} {W : Nat → Int32}
theorem w_prints {s : Nat} (hs : s < 37) : ∀ (n k w : Nat) (m : Nat → Nat → Int32), k + n = (zby s).length → m 137 16 = Int32.ofNat w → w + n ≤ 400 → ∃ m', PT m m' (w + n) ∧ ∀ d, zEv σ (d + 1) 1907 2 [some (.ref 137), some (.ref (1100 + s)), some (.int (Int32.ofNat k))] [] (zS1, zrow m 138 W, yy) (.inl none) (zS1, zrow m' 138 W, yy) := by
  have hl := zby_len s hs
  intro n
  induction n with
  | zero =>
    intro k w m hk hw hw4
    refine ⟨m, ⟨fun _ _ _ => rfl, fun _ _ => rfl, hw⟩, fun d => ?_⟩
    refine zeP rfl rfl ?_
    refine zeP rfl rfl ?_
    refine zeLn hs rfl rfl rfl rfl rfl ?_
    refine zeT2 rfl rfl (zcge (by omega) (by omega) (by omega)) ?_
    exact zeRe rfl rfl rfl rfl rfl rfl
  | succ n ih =>
    intro k w m hk hw hw4
    obtain ⟨m', h1, h2⟩ := ih (k + 1) (w + 1) (zm2 (zm2 m 145 w (vp_nar .byte ((zby s).getD k 0).toInt8.toInt32)) 137 16 (Int32.ofNat (w + 1))) (by omega) (zm2_a _ _ _ _) (by omega)
    refine ⟨m', by rw [show w + (n + 1) = w + 1 + n by omega]; exact (PT.byte m w _).tr h1, fun d => ?_⟩
    refine zeP rfl rfl ?_
    refine zeP rfl rfl ?_
    refine zeLn hs rfl rfl rfl rfl rfl ?_
    refine zeF2 rfl rfl (zcge_f (by omega) (by omega) (by omega)) ?_
    refine zeP rfl rfl ?_
    refine zeGR rfl rfl zS137 rfl rfl ?_
    refine zeP rfl rfl ?_
    refine zeFI rfl rfl rfl rfl ?_
    rw [hw]
    refine zeP rfl rfl ?_
    refine zeP rfl rfl ?_
    refine zeCh hs (by omega) rfl rfl rfl rfl rfl ?_
    refine zeP rfl rfl ?_
    refine zeQBS (a := 145) (k := w) rfl (by decide) zS145 rfl (by omega) ?_
    refine zeP rfl rfl ?_
    refine zeP rfl rfl ?_
    refine zeFI rfl rfl rfl rfl ?_
    rw [zm2_i m (a := 145) (k := w) _ (show 137 ≠ 145 by decide), hw]
    refine zeKn (c := 1) rfl rfl rfl ?_
    refine zeAdd rfl ?_
    refine zeFP rfl rfl rfl ?_
    refine zeInc rfl rfl ?_
    refine zeP rfl rfl ?_
    exact h2 d
theorem c_prints {s w : Nat} {m : Nat → Nat → Int32} (hs : s < 37) (hw : m 137 16 = Int32.ofNat w) (h4 : w + (zby s).length ≤ 400) : ∃ m', PT m m' (w + (zby s).length) ∧ zF σ 1 1907 [.ref 137, .ref (1100 + s)] (zS1, zrow m 138 W, yy) (.inl none) (zS1, zrow m' 138 W, yy) := by
  obtain ⟨m', h1, h2⟩ := w_prints (σ := σ) (yy := yy) (W := W) hs (zby s).length 0 w m (by omega) hw h4
  refine ⟨m', h1, fun d hd => ?_⟩
  obtain ⟨d, rfl⟩ : ∃ k, d = k + 1 := ⟨d - 1, by omega⟩
  show zEv σ (d + 1) 1907 0 [some (.ref 137), some (.ref (1100 + s)), none] [] _ _ _
  refine zeKn (c := 0) rfl rfl rfl ?_
  refine zeP rfl rfl ?_
  exact h2 d
/-- the last digit -/
theorem printsN {w h : Nat} {v : Int32} {m m1 : Nat → Nat → Int32} (hw : m1 137 16 = Int32.ofNat w) (hm : PT m m1 w) (h4 : w + 1 ≤ 400) (hv : ∀ d, h ≤ d → ∀ {o M'}, zEv σ (d + 1) 1908 14 [some (.ref 137), some (.int v)] [] (zS1, zrow m1 138 W, yy) o M' → zEv σ (d + 1) 1908 0 [some (.ref 137), some (.int v)] [] (zS1, zrow m 138 W, yy) o M') : ∃ m', PT m m' (w + 1) ∧ zF σ (h + 1) 1908 [.ref 137, .int v] (zS1, zrow m 138 W, yy) (.inl none) (zS1, zrow m' 138 W, yy) := by
  refine ⟨_, hm.tr (PT.byte m1 w (vp_nar .byte (Int32.ofNat 48 + (v - v / Int32.ofNat 10 * Int32.ofNat 10)).toInt8.toInt32)), fun d hd => ?_⟩
  obtain ⟨d, rfl⟩ : ∃ k, d = k + 1 := ⟨d - 1, by omega⟩
  refine hv d (by omega) ?_
  refine zeP rfl rfl ?_
  refine zeGR rfl rfl zS137 rfl rfl ?_
  refine zeP rfl rfl ?_
  refine zeFI rfl rfl rfl rfl ?_
  rw [hw]
  refine zeKn (c := 48) rfl rfl rfl ?_
  refine zeP rfl rfl ?_
  refine zeKn (c := 10) rfl rfl rfl ?_
  refine zeRem rfl (by decide) ?_
  refine zeP rfl rfl ?_
  refine zeP rfl rfl ?_
  refine zeQBS (a := 145) (k := w) rfl (by decide) zS145 rfl (by omega) ?_
  refine zeP rfl rfl ?_
  refine zeP rfl rfl ?_
  refine zeFI rfl rfl rfl rfl ?_
  rw [zm2_i m1 (a := 145) (k := w) _ (show 137 ≠ 145 by decide), hw]
  refine zeKn (c := 1) rfl rfl rfl ?_
  refine zeAdd rfl ?_
  refine zeFP rfl rfl rfl ?_
  exact zeRe rfl rfl rfl rfl rfl rfl
theorem tlt_t {a b : Nat} (ha : a ≤ 100000) (hb : b ≤ 100000) (h : a < b) : zc2 .lt (Int32.ofNat a) (Int32.ofNat b) = true := by
  apply decide_eq_true
  rw [Int32.lt_iff_toInt_lt, zoN (by omega), zoN (by omega)]
  omega
theorem tlt_f {a b : Nat} (ha : a ≤ 100000) (hb : b ≤ 100000) (h : b ≤ a) : zc2 .lt (Int32.ofNat a) (Int32.ofNat b) = false := by
  apply decide_eq_false
  rw [Int32.lt_iff_toInt_lt, zoN (by omega), zoN (by omega)]
  omega
theorem zdiv10 {v : Nat} (h : v < 1000) : Int32.ofNat v / Int32.ofNat 10 = Int32.ofNat (v / 10) := by
  apply Int32.toInt_inj.mp
  rw [Int32.toInt_div_of_ne_right _ _ (by decide), zoN (by omega), zoN (by omega), zoN (by omega), Int.tdiv_eq_ediv_of_nonneg (by omega)]
  omega
theorem c_printsN1 {v w : Nat} {m : Nat → Nat → Int32} (hv : v < 10) (hw : m 137 16 = Int32.ofNat w) (h4 : w + 1 ≤ 400) : ∃ m', PT m m' (w + 1) ∧ zF σ 1 1908 [.ref 137, .int (Int32.ofNat v)] (zS1, zrow m 138 W, yy) (.inl none) (zS1, zrow m' 138 W, yy) := by
  refine printsN (h := 0) hw ⟨fun _ _ _ => rfl, fun _ _ => rfl, hw⟩ h4 (fun d _ o M' k => ?_)
  refine zeP rfl rfl ?_
  refine zeKn (c := 10) rfl rfl rfl ?_
  exact zeT2 rfl rfl (tlt_t (by omega) (by omega) hv) k
theorem c_printsN' {v w j h : Nat} {m : Nat → Nat → Int32} (hv : 10 ≤ v) (hv2 : v < 1000) (h4 : w + j + 1 ≤ 400) (ih : ∃ m' w', w' ≤ w + j ∧ PT m m' w' ∧ zF σ h 1908 [.ref 137, .int (Int32.ofNat (v / 10))] (zS1, zrow m 138 W, yy) (.inl none) (zS1, zrow m' 138 W, yy)) : ∃ m' w', w' ≤ w + j + 1 ∧ PT m m' w' ∧ zF σ (h + 1) 1908 [.ref 137, .int (Int32.ofNat v)] (zS1, zrow m 138 W, yy) (.inl none) (zS1, zrow m' 138 W, yy) := by
  obtain ⟨m1, w1, g1, g2, g3⟩ := ih
  obtain ⟨m', g4, g5⟩ := printsN (σ := σ) (yy := yy) (W := W) (h := h) (v := Int32.ofNat v) (m := m) (m1 := m1) g2.2.2 g2 (by omega) (fun d hd o M' k => by
    refine zeP rfl rfl ?_
    refine zeKn (c := 10) rfl rfl rfl ?_
    refine zeF2 rfl rfl (tlt_f (by omega) (by omega) hv) ?_
    refine zeP rfl rfl ?_
    refine zeP rfl rfl ?_
    refine zeKn (c := 10) rfl rfl rfl ?_
    refine zeDiv rfl (by decide) ?_
    rw [zdiv10 hv2]
    refine zeCF rfl rfl rfl rfl rfl rfl g3 hd ?_
    exact k)
  exact ⟨m', w1 + 1, by omega, g4, g5⟩
theorem c_printsNumber {v w : Nat} {m : Nat → Nat → Int32} (hv : v < 1000) (hw : m 137 16 = Int32.ofNat w) (h4 : w + 3 ≤ 400) : ∃ m' w', w' ≤ w + 3 ∧ PT m m' w' ∧ zF σ 3 1908 [.ref 137, .int (Int32.ofNat v)] (zS1, zrow m 138 W, yy) (.inl none) (zS1, zrow m' 138 W, yy) := by
  have one : ∀ u, u < 10 → ∃ m' w', w' ≤ w + 1 ∧ PT m m' w' ∧ zF σ 1 1908 [.ref 137, .int (Int32.ofNat u)] (zS1, zrow m 138 W, yy) (.inl none) (zS1, zrow m' 138 W, yy) := fun u hu => by
    obtain ⟨m', a, b⟩ := c_printsN1 (σ := σ) (yy := yy) (W := W) hu hw (by omega)
    exact ⟨m', w + 1, Nat.le_refl _, a, b⟩
  have two : ∀ u, u < 100 → ∃ m' w', w' ≤ w + 2 ∧ PT m m' w' ∧ zF σ 2 1908 [.ref 137, .int (Int32.ofNat u)] (zS1, zrow m 138 W, yy) (.inl none) (zS1, zrow m' 138 W, yy) := fun u hu => by
    by_cases h : u < 10
    · obtain ⟨m', w', a, b, c⟩ := one u h
      exact ⟨m', w', by omega, b, c.up (by omega)⟩
    · exact c_printsN' (j := 1) (h := 1) (by omega) (by omega) (by omega) (one (u / 10) (by omega))
  by_cases h : v < 100
  · obtain ⟨m', w', a, b, c⟩ := two v h
    exact ⟨m', w', by omega, b, c.up (by omega)⟩
  · exact c_printsN' (j := 2) (h := 2) (by omega) (by omega) (by omega) (two (v / 10) (by omega))
theorem c_pd0 {n w : Nat} {m : Nat → Nat → Int32} (hn : n < 1000) (hw : m 137 16 = Int32.ofNat w) (h4 : w + 8 ≤ 400) : ∃ m' w', w' ≤ w + 8 ∧ PT m m' w' ∧ zF σ 4 1909 [.ref 137, .int (Int32.ofNat 0), .int (Int32.ofNat n)] (zS1, zrow m 138 W, yy) (.inl none) (zS1, zrow m' 138 W, yy) := by
  have e : (zby 28).length = 5 := rfl
  obtain ⟨m1, a1, b1⟩ := c_prints (σ := σ) (yy := yy) (W := W) (s := 28) (by decide) hw (by rw [e]; omega)
  rw [e] at a1
  obtain ⟨m2, w2, a2, b2, c2⟩ := c_printsNumber (σ := σ) (yy := yy) (W := W) hn a1.2.2 (by omega)
  refine ⟨m2, w2, by omega, a1.tr b2, fun d hd => ?_⟩
  obtain ⟨d, rfl⟩ : ∃ k, d = k + 1 := ⟨d - 1, by omega⟩
  show zEv σ (d + 1) 1909 0 [some (.ref 137), some (.int (Int32.ofNat 0)), some (.int (Int32.ofNat n))] [] _ _ _
  refine zeP rfl rfl ?_
  refine zeSw (K := 0) rfl rfl rfl ?_
  refine zeP rfl rfl ?_
  refine zeS rfl rfl rfl ?_
  refine zeCF rfl rfl rfl rfl rfl rfl b1 (by omega) ?_
  dsimp only [Option.toList, List.cons_append, List.nil_append]
  refine zeP rfl rfl ?_
  refine zeP rfl rfl ?_
  refine zeKn (c := 7) rfl rfl rfl ?_
  refine zeF2 rfl rfl (show zc2 .eq (Int32.ofNat 0) (Int32.ofNat 7) = false by decide) ?_
  refine zeP rfl rfl ?_
  refine zeP rfl rfl ?_
  refine zeCF rfl rfl rfl rfl rfl rfl c2 (by omega) ?_
  dsimp only [Option.toList, List.cons_append, List.nil_append]
  exact zeRe rfl rfl rfl rfl rfl rfl
theorem c_pd1 {n w : Nat} {m : Nat → Nat → Int32} (hn : n < 1000) (hw : m 137 16 = Int32.ofNat w) (h4 : w + 8 ≤ 400) : ∃ m' w', w' ≤ w + 8 ∧ PT m m' w' ∧ zF σ 4 1909 [.ref 137, .int (Int32.ofNat 1), .int (Int32.ofNat n)] (zS1, zrow m 138 W, yy) (.inl none) (zS1, zrow m' 138 W, yy) := by
  have e : (zby 29).length = 5 := rfl
  obtain ⟨m1, a1, b1⟩ := c_prints (σ := σ) (yy := yy) (W := W) (s := 29) (by decide) hw (by rw [e]; omega)
  rw [e] at a1
  obtain ⟨m2, w2, a2, b2, c2⟩ := c_printsNumber (σ := σ) (yy := yy) (W := W) hn a1.2.2 (by omega)
  refine ⟨m2, w2, by omega, a1.tr b2, fun d hd => ?_⟩
  obtain ⟨d, rfl⟩ : ∃ k, d = k + 1 := ⟨d - 1, by omega⟩
  show zEv σ (d + 1) 1909 0 [some (.ref 137), some (.int (Int32.ofNat 1)), some (.int (Int32.ofNat n))] [] _ _ _
  refine zeP rfl rfl ?_
  refine zeSw (K := 1) rfl rfl rfl ?_
  refine zeP rfl rfl ?_
  refine zeS rfl rfl rfl ?_
  refine zeCF rfl rfl rfl rfl rfl rfl b1 (by omega) ?_
  dsimp only [Option.toList, List.cons_append, List.nil_append]
  refine zeP rfl rfl ?_
  refine zeP rfl rfl ?_
  refine zeKn (c := 7) rfl rfl rfl ?_
  refine zeF2 rfl rfl (show zc2 .eq (Int32.ofNat 1) (Int32.ofNat 7) = false by decide) ?_
  refine zeP rfl rfl ?_
  refine zeP rfl rfl ?_
  refine zeCF rfl rfl rfl rfl rfl rfl c2 (by omega) ?_
  dsimp only [Option.toList, List.cons_append, List.nil_append]
  exact zeRe rfl rfl rfl rfl rfl rfl
theorem c_pd2 {n w : Nat} {m : Nat → Nat → Int32} (hn : n < 1000) (hw : m 137 16 = Int32.ofNat w) (h4 : w + 8 ≤ 400) : ∃ m' w', w' ≤ w + 8 ∧ PT m m' w' ∧ zF σ 4 1909 [.ref 137, .int (Int32.ofNat 2), .int (Int32.ofNat n)] (zS1, zrow m 138 W, yy) (.inl none) (zS1, zrow m' 138 W, yy) := by
  have e : (zby 30).length = 4 := rfl
  obtain ⟨m1, a1, b1⟩ := c_prints (σ := σ) (yy := yy) (W := W) (s := 30) (by decide) hw (by rw [e]; omega)
  rw [e] at a1
  obtain ⟨m2, w2, a2, b2, c2⟩ := c_printsNumber (σ := σ) (yy := yy) (W := W) hn a1.2.2 (by omega)
  refine ⟨m2, w2, by omega, a1.tr b2, fun d hd => ?_⟩
  obtain ⟨d, rfl⟩ : ∃ k, d = k + 1 := ⟨d - 1, by omega⟩
  show zEv σ (d + 1) 1909 0 [some (.ref 137), some (.int (Int32.ofNat 2)), some (.int (Int32.ofNat n))] [] _ _ _
  refine zeP rfl rfl ?_
  refine zeSw (K := 2) rfl rfl rfl ?_
  refine zeP rfl rfl ?_
  refine zeS rfl rfl rfl ?_
  refine zeCF rfl rfl rfl rfl rfl rfl b1 (by omega) ?_
  dsimp only [Option.toList, List.cons_append, List.nil_append]
  refine zeP rfl rfl ?_
  refine zeP rfl rfl ?_
  refine zeKn (c := 7) rfl rfl rfl ?_
  refine zeF2 rfl rfl (show zc2 .eq (Int32.ofNat 2) (Int32.ofNat 7) = false by decide) ?_
  refine zeP rfl rfl ?_
  refine zeP rfl rfl ?_
  refine zeCF rfl rfl rfl rfl rfl rfl c2 (by omega) ?_
  dsimp only [Option.toList, List.cons_append, List.nil_append]
  exact zeRe rfl rfl rfl rfl rfl rfl
theorem c_pd3 {n w : Nat} {m : Nat → Nat → Int32} (hn : n < 1000) (hw : m 137 16 = Int32.ofNat w) (h4 : w + 8 ≤ 400) : ∃ m' w', w' ≤ w + 8 ∧ PT m m' w' ∧ zF σ 4 1909 [.ref 137, .int (Int32.ofNat 3), .int (Int32.ofNat n)] (zS1, zrow m 138 W, yy) (.inl none) (zS1, zrow m' 138 W, yy) := by
  have e : (zby 31).length = 4 := rfl
  obtain ⟨m1, a1, b1⟩ := c_prints (σ := σ) (yy := yy) (W := W) (s := 31) (by decide) hw (by rw [e]; omega)
  rw [e] at a1
  obtain ⟨m2, w2, a2, b2, c2⟩ := c_printsNumber (σ := σ) (yy := yy) (W := W) hn a1.2.2 (by omega)
  refine ⟨m2, w2, by omega, a1.tr b2, fun d hd => ?_⟩
  obtain ⟨d, rfl⟩ : ∃ k, d = k + 1 := ⟨d - 1, by omega⟩
  show zEv σ (d + 1) 1909 0 [some (.ref 137), some (.int (Int32.ofNat 3)), some (.int (Int32.ofNat n))] [] _ _ _
  refine zeP rfl rfl ?_
  refine zeSw (K := 3) rfl rfl rfl ?_
  refine zeP rfl rfl ?_
  refine zeS rfl rfl rfl ?_
  refine zeCF rfl rfl rfl rfl rfl rfl b1 (by omega) ?_
  dsimp only [Option.toList, List.cons_append, List.nil_append]
  refine zeP rfl rfl ?_
  refine zeP rfl rfl ?_
  refine zeKn (c := 7) rfl rfl rfl ?_
  refine zeF2 rfl rfl (show zc2 .eq (Int32.ofNat 3) (Int32.ofNat 7) = false by decide) ?_
  refine zeP rfl rfl ?_
  refine zeP rfl rfl ?_
  refine zeCF rfl rfl rfl rfl rfl rfl c2 (by omega) ?_
  dsimp only [Option.toList, List.cons_append, List.nil_append]
  exact zeRe rfl rfl rfl rfl rfl rfl
theorem c_pd4 {n w : Nat} {m : Nat → Nat → Int32} (hn : n < 1000) (hw : m 137 16 = Int32.ofNat w) (h4 : w + 8 ≤ 400) : ∃ m' w', w' ≤ w + 8 ∧ PT m m' w' ∧ zF σ 4 1909 [.ref 137, .int (Int32.ofNat 4), .int (Int32.ofNat n)] (zS1, zrow m 138 W, yy) (.inl none) (zS1, zrow m' 138 W, yy) := by
  have e : (zby 32).length = 4 := rfl
  obtain ⟨m1, a1, b1⟩ := c_prints (σ := σ) (yy := yy) (W := W) (s := 32) (by decide) hw (by rw [e]; omega)
  rw [e] at a1
  obtain ⟨m2, w2, a2, b2, c2⟩ := c_printsNumber (σ := σ) (yy := yy) (W := W) hn a1.2.2 (by omega)
  refine ⟨m2, w2, by omega, a1.tr b2, fun d hd => ?_⟩
  obtain ⟨d, rfl⟩ : ∃ k, d = k + 1 := ⟨d - 1, by omega⟩
  show zEv σ (d + 1) 1909 0 [some (.ref 137), some (.int (Int32.ofNat 4)), some (.int (Int32.ofNat n))] [] _ _ _
  refine zeP rfl rfl ?_
  refine zeSw (K := 4) rfl rfl rfl ?_
  refine zeP rfl rfl ?_
  refine zeS rfl rfl rfl ?_
  refine zeCF rfl rfl rfl rfl rfl rfl b1 (by omega) ?_
  dsimp only [Option.toList, List.cons_append, List.nil_append]
  refine zeP rfl rfl ?_
  refine zeP rfl rfl ?_
  refine zeKn (c := 7) rfl rfl rfl ?_
  refine zeF2 rfl rfl (show zc2 .eq (Int32.ofNat 4) (Int32.ofNat 7) = false by decide) ?_
  refine zeP rfl rfl ?_
  refine zeP rfl rfl ?_
  refine zeCF rfl rfl rfl rfl rfl rfl c2 (by omega) ?_
  dsimp only [Option.toList, List.cons_append, List.nil_append]
  exact zeRe rfl rfl rfl rfl rfl rfl
theorem c_pd5 {n w : Nat} {m : Nat → Nat → Int32} (hn : n < 1000) (hw : m 137 16 = Int32.ofNat w) (h4 : w + 8 ≤ 400) : ∃ m' w', w' ≤ w + 8 ∧ PT m m' w' ∧ zF σ 4 1909 [.ref 137, .int (Int32.ofNat 5), .int (Int32.ofNat n)] (zS1, zrow m 138 W, yy) (.inl none) (zS1, zrow m' 138 W, yy) := by
  have e : (zby 33).length = 5 := rfl
  obtain ⟨m1, a1, b1⟩ := c_prints (σ := σ) (yy := yy) (W := W) (s := 33) (by decide) hw (by rw [e]; omega)
  rw [e] at a1
  obtain ⟨m2, w2, a2, b2, c2⟩ := c_printsNumber (σ := σ) (yy := yy) (W := W) hn a1.2.2 (by omega)
  refine ⟨m2, w2, by omega, a1.tr b2, fun d hd => ?_⟩
  obtain ⟨d, rfl⟩ : ∃ k, d = k + 1 := ⟨d - 1, by omega⟩
  show zEv σ (d + 1) 1909 0 [some (.ref 137), some (.int (Int32.ofNat 5)), some (.int (Int32.ofNat n))] [] _ _ _
  refine zeP rfl rfl ?_
  refine zeSw (K := 5) rfl rfl rfl ?_
  refine zeP rfl rfl ?_
  refine zeS rfl rfl rfl ?_
  refine zeCF rfl rfl rfl rfl rfl rfl b1 (by omega) ?_
  dsimp only [Option.toList, List.cons_append, List.nil_append]
  refine zeP rfl rfl ?_
  refine zeP rfl rfl ?_
  refine zeKn (c := 7) rfl rfl rfl ?_
  refine zeF2 rfl rfl (show zc2 .eq (Int32.ofNat 5) (Int32.ofNat 7) = false by decide) ?_
  refine zeP rfl rfl ?_
  refine zeP rfl rfl ?_
  refine zeCF rfl rfl rfl rfl rfl rfl c2 (by omega) ?_
  dsimp only [Option.toList, List.cons_append, List.nil_append]
  exact zeRe rfl rfl rfl rfl rfl rfl
theorem c_pd6 {n w : Nat} {m : Nat → Nat → Int32} (hn : n < 1000) (hw : m 137 16 = Int32.ofNat w) (h4 : w + 8 ≤ 400) : ∃ m' w', w' ≤ w + 8 ∧ PT m m' w' ∧ zF σ 4 1909 [.ref 137, .int (Int32.ofNat 6), .int (Int32.ofNat n)] (zS1, zrow m 138 W, yy) (.inl none) (zS1, zrow m' 138 W, yy) := by
  have e : (zby 34).length = 5 := rfl
  obtain ⟨m1, a1, b1⟩ := c_prints (σ := σ) (yy := yy) (W := W) (s := 34) (by decide) hw (by rw [e]; omega)
  rw [e] at a1
  obtain ⟨m2, w2, a2, b2, c2⟩ := c_printsNumber (σ := σ) (yy := yy) (W := W) hn a1.2.2 (by omega)
  refine ⟨m2, w2, by omega, a1.tr b2, fun d hd => ?_⟩
  obtain ⟨d, rfl⟩ : ∃ k, d = k + 1 := ⟨d - 1, by omega⟩
  show zEv σ (d + 1) 1909 0 [some (.ref 137), some (.int (Int32.ofNat 6)), some (.int (Int32.ofNat n))] [] _ _ _
  refine zeP rfl rfl ?_
  refine zeSw (K := 6) rfl rfl rfl ?_
  refine zeP rfl rfl ?_
  refine zeS rfl rfl rfl ?_
  refine zeCF rfl rfl rfl rfl rfl rfl b1 (by omega) ?_
  dsimp only [Option.toList, List.cons_append, List.nil_append]
  refine zeP rfl rfl ?_
  refine zeP rfl rfl ?_
  refine zeKn (c := 7) rfl rfl rfl ?_
  refine zeF2 rfl rfl (show zc2 .eq (Int32.ofNat 6) (Int32.ofNat 7) = false by decide) ?_
  refine zeP rfl rfl ?_
  refine zeP rfl rfl ?_
  refine zeCF rfl rfl rfl rfl rfl rfl c2 (by omega) ?_
  dsimp only [Option.toList, List.cons_append, List.nil_append]
  exact zeRe rfl rfl rfl rfl rfl rfl
theorem c_pd7 {n w : Nat} {m : Nat → Nat → Int32} (hn : n < 1000) (hw : m 137 16 = Int32.ofNat w) (h4 : w + 8 ≤ 400) : ∃ m' w', w' ≤ w + 8 ∧ PT m m' w' ∧ zF σ 4 1909 [.ref 137, .int (Int32.ofNat 7), .int (Int32.ofNat n)] (zS1, zrow m 138 W, yy) (.inl none) (zS1, zrow m' 138 W, yy) := by
  have e : (zby 12).length = 3 := rfl
  obtain ⟨m1, a1, b1⟩ := c_prints (σ := σ) (yy := yy) (W := W) (s := 12) (by decide) hw (by rw [e]; omega)
  rw [e] at a1
  refine ⟨m1, w + 3, by omega, a1, fun d hd => ?_⟩
  obtain ⟨d, rfl⟩ : ∃ k, d = k + 1 := ⟨d - 1, by omega⟩
  show zEv σ (d + 1) 1909 0 [some (.ref 137), some (.int (Int32.ofNat 7)), some (.int (Int32.ofNat n))] [] _ _ _
  refine zeP rfl rfl ?_
  refine zeSw (K := 7) rfl rfl rfl ?_
  refine zeP rfl rfl ?_
  refine zeS rfl rfl rfl ?_
  refine zeCF rfl rfl rfl rfl rfl rfl b1 (by omega) ?_
  dsimp only [Option.toList, List.cons_append, List.nil_append]
  refine zeP rfl rfl ?_
  refine zeKn (c := 7) rfl rfl rfl ?_
  refine zeT2 rfl rfl (show zc2 .eq (Int32.ofNat 7) (Int32.ofNat 7) = true by decide) ?_
  exact zeRe rfl rfl rfl rfl rfl rfl
theorem c_printsDeed {K n w : Nat} {m : Nat → Nat → Int32} (hK : K ≤ 7) (hn : n < 1000) (hw : m 137 16 = Int32.ofNat w) (h4 : w + 8 ≤ 400) : ∃ m' w', w' ≤ w + 8 ∧ PT m m' w' ∧ zF σ 4 1909 [.ref 137, .int (Int32.ofNat K), .int (Int32.ofNat n)] (zS1, zrow m 138 W, yy) (.inl none) (zS1, zrow m' 138 W, yy) := by
  match K, hK with
  | 0, _ => exact c_pd0 hn hw h4
  | 1, _ => exact c_pd1 hn hw h4
  | 2, _ => exact c_pd2 hn hw h4
  | 3, _ => exact c_pd3 hn hw h4
  | 4, _ => exact c_pd4 hn hw h4
  | 5, _ => exact c_pd5 hn hw h4
  | 6, _ => exact c_pd6 hn hw h4
  | 7, _ => exact c_pd7 hn hw h4
  | k + 8, h => exact absurd h (by omega)
theorem w_text {t : Nat} (hW : WG W) (ht : t < 4) : ∀ (n p w : Nat) (m : Nat → Nat → Int32), p + n = nv W (376 + 103 * t + 22) → m 137 16 = Int32.ofNat w → w ≤ 7 + 10 * p → ∃ m' w', w' ≤ 400 ∧ PT m m' w' ∧ ∀ d, 5 ≤ d + 1 → zEv σ (d + 1) 1910 24 [some (.ref 137), some (.int (Int32.ofNat t)), some (.int (Int32.ofNat p))] [] (zS1, zrow m 138 W, yy) (.inl (some (.int (Int32.ofNat w')))) (zS1, zrow m' 138 W, yy) := by
  have h24 := (hW.2 t ht).2.2.2.1.2.2
  have hLe : q_of W t 22 = Int32.ofNat (nv W (376 + 103 * t + 22)) := (hW.2 t ht).2.2.2.1.1
  intro n
  induction n with
  | zero =>
    intro p w m hk hw h7
    refine ⟨m, w, by omega, ⟨fun _ _ _ => rfl, fun _ _ => rfl, hw⟩, fun d hd => ?_⟩
    refine zeP rfl rfl ?_
    refine zeP rfl rfl ?_
    refine zeP rfl rfl ?_
    refine zeKn (c := 22) rfl rfl rfl ?_
    refine zeCF rfl rfl rfl rfl rfl rfl (c_of (m := m) (W := W) (t := t) (k := 22) (by omega)) (by omega) ?_
    dsimp only [Option.toList, List.cons_append, List.nil_append]
    rw [hLe]
    refine zeT2 rfl rfl (zcge (by omega) (by omega) (by omega)) ?_
    refine zeP rfl rfl ?_
    refine zeFI rfl rfl rfl rfl ?_
    rw [hw]
    exact zeRe rfl rfl rfl rfl rfl rfl
  | succ n ih =>
    intro p w m hk hw h7
    have hD := hW.D ht (p := p) (by omega)
    have hN9 := ((hW.2 t ht).2.2.2.2.2.2.2 p (by omega)).2.1.2.2
    have e36 : (zby 36).length = 2 := rfl
    have hsep : ∃ m1 w1, w1 ≤ 7 + 10 * p + 2 ∧ PT m m1 w1 ∧ ∀ d, 5 ≤ d + 1 → ∀ {o M'}, zEv σ (d + 1) 1910 46 [some (.ref 137), some (.int (Int32.ofNat t)), some (.int (Int32.ofNat p))] [] (zS1, zrow m1 138 W, yy) o M' → zEv σ (d + 1) 1910 35 [some (.ref 137), some (.int (Int32.ofNat t)), some (.int (Int32.ofNat p))] [] (zS1, zrow m 138 W, yy) o M' := by
      by_cases hp : p = 0
      · refine ⟨m, w, by omega, ⟨fun _ _ _ => rfl, fun _ _ => rfl, hw⟩, fun d hd o M' k => ?_⟩
        subst hp
        refine zeP rfl rfl ?_
        exact zeT1 rfl rfl (show zc1 .le (Int32.ofNat 0) = true by decide) k
      · obtain ⟨m1, a1, b1⟩ := c_prints (σ := σ) (yy := yy) (W := W) (s := 36) (by decide) hw (by rw [e36]; omega)
        rw [e36] at a1
        refine ⟨m1, w + 2, by omega, a1, fun d hd o M' k => ?_⟩
        refine zeP rfl rfl ?_
        refine zeF1 rfl rfl (show zc1 .le (Int32.ofNat p) = false from ?_) ?_
        · apply decide_eq_false
          rw [Int32.le_iff_toInt_le, zoN (by omega), Int32.toInt_zero]
          omega
        refine zeP rfl rfl ?_
        refine zeS rfl rfl rfl ?_
        refine zeCF rfl rfl rfl rfl rfl rfl b1 (by omega) ?_
        exact k
    obtain ⟨m1, w1, s1, s2, s3⟩ := hsep
    obtain ⟨m2, w2, r1, r2, r3⟩ := c_printsDeed (σ := σ) (yy := yy) (W := W) (K := nv W (376 + 103 * t + (55 + 2 * p))) (n := nv W (376 + 103 * t + (55 + 2 * p + 1))) hD.1 (by omega) s2.2.2 (by omega)
    obtain ⟨m3, w3, g1, g2, g3⟩ := ih (p + 1) w2 m2 (by omega) r2.2.2 (by omega)
    refine ⟨m3, w3, g1, (s2.tr r2).tr g2, fun d hd => ?_⟩
    refine zeP rfl rfl ?_
    refine zeP rfl rfl ?_
    refine zeP rfl rfl ?_
    refine zeKn (c := 22) rfl rfl rfl ?_
    refine zeCF rfl rfl rfl rfl rfl rfl (c_of (m := m) (W := W) (t := t) (k := 22) (by omega)) (by omega) ?_
    dsimp only [Option.toList, List.cons_append, List.nil_append]
    rw [hLe]
    refine zeF2 rfl rfl (zcge_f (by omega) (by omega) (by omega)) ?_
    refine s3 d hd ?_
    refine zeP rfl rfl ?_
    refine zeP rfl rfl ?_
    refine zeP rfl rfl ?_
    refine zeP rfl rfl ?_
    refine zeKn (c := 0) rfl rfl rfl ?_
    refine zeCF rfl rfl rfl rfl rfl rfl (c_deedOf (m := m1) (W := W) (t := t) (p := p) (k := 0) (by omega)) (by omega) ?_
    dsimp only [Option.toList, List.cons_append, List.nil_append]
    rw [deedOf0 hW ht (by omega)]
    refine zeP rfl rfl ?_
    refine zeP rfl rfl ?_
    refine zeP rfl rfl ?_
    refine zeKn (c := 1) rfl rfl rfl ?_
    refine zeCF rfl rfl rfl rfl rfl rfl (c_deedOf (m := m1) (W := W) (t := t) (p := p) (k := 1) (by omega)) (by omega) ?_
    dsimp only [Option.toList, List.cons_append, List.nil_append]
    rw [deedOf1 hW ht (by omega)]
    refine zeCF rfl rfl rfl rfl rfl rfl r3 (by omega) ?_
    dsimp only [Option.toList, List.cons_append, List.nil_append]
    refine zeInc rfl rfl ?_
    refine zeP rfl rfl ?_
    exact g3 d hd
/-- what text leaves alone -/
noncomputable def TF (m m' : Nat → Nat → Int32) : Prop := (∀ i, i ≠ 137 → i ≠ 145 → m' i = m i) ∧ (∀ k, k ≠ 0 → k ≠ 16 → m' 137 k = m 137 k) ∧ ∃ w, w ≤ 400 ∧ m' 137 16 = Int32.ofNat w
theorem c_text {t : Int32} {w0 : Nat} {m : Nat → Nat → Int32} (hW : WG W) (hw0 : m 137 16 = Int32.ofNat w0) (h0 : w0 ≤ 400) : ∃ v m', TF m m' ∧ zF σ 6 1910 [.ref 137, .int t] (zS1, zrow m 138 W, yy) (.inl (some (.int v))) (zS1, zrow m' 138 W, yy) := by
  cases hi : zc1 .ne (q_in t (Int32.ofNat 0) (q_threads W - Int32.ofNat 1)) with
  | false =>
    have e : (q_noThread m W t).1 = Int32.ofNat 1 := by unfold q_noThread; rw [hi]; rfl
    have e2 : (q_noThread m W t).2 = (q_thr1 (zm2 m 137 0 (Int32.ofNat 0)) 1).2 := by unfold q_noThread; rw [hi]; rfl
    refine ⟨Int32.ofNat 0, (q_noThread m W t).2, ?_, fun d hd => ?_⟩
    · rw [e2]
      refine ⟨fun i h1 h2 => ?_, fun k h1 h2 => ?_, w0, h0, ?_⟩
      · show zm2 (zm2 m 137 0 _) 137 0 _ i = _
        rw [zm2_i _ _ h1, zm2_i _ _ h1]
      · show zm2 (zm2 m 137 0 _) 137 0 _ 137 k = _
        rw [zm2_k _ _ h1, zm2_k _ _ h1]
      · show zm2 (zm2 m 137 0 (Int32.ofNat 0)) 137 0 (Int32.ofNat 1) 137 16 = Int32.ofNat w0
        rw [zm2_k _ _ (by decide), zm2_k _ _ (by decide)]
        exact hw0
    · obtain ⟨d, rfl⟩ : ∃ k, d = k + 1 := ⟨d - 1, by omega⟩
      show zEv σ (d + 1) 1910 0 [some (.ref 137), some (.int t), none] [] _ _ _
      refine zeP rfl rfl ?_
      refine zeP rfl rfl ?_
      refine zeCF rfl rfl rfl rfl rfl rfl (c_noThread (m := m) (W := W) (t := t)) (by omega) ?_
      dsimp only [Option.toList, List.cons_append, List.nil_append]
      rw [e]
      refine zeF1 rfl rfl (show zc1 .eq (Int32.ofNat 1) = false by decide) ?_
      refine zeKn (c := 0) rfl rfl rfl ?_
      exact zeRe rfl rfl rfl rfl rfl rfl
  | true =>
    obtain ⟨ht1, ht2⟩ := in_N hW.N hW.N4 hi
    have h4 := hW.N4
    have e : (q_noThread m W t).1 = Int32.ofNat 0 := by unfold q_noThread; rw [hi]; rfl
    have e2 : (q_noThread m W t).2 = zm2 m 137 0 (Int32.ofNat 0) := by unfold q_noThread; rw [hi]; rfl
    have e35 : (zby 35).length = 7 := rfl
    obtain ⟨m1, a1, b1⟩ := c_prints (σ := σ) (yy := yy) (W := W) (s := 35) (w := 0) (m := zm2 (zm2 m 137 0 (Int32.ofNat 0)) 137 16 (Int32.ofNat 0)) (by decide) (zm2_a _ _ _ _) (by rw [e35]; omega)
    rw [e35] at a1
    obtain ⟨m2, w2, g1, g2, g3⟩ := w_text (σ := σ) (yy := yy) hW (show t.toNatClampNeg < 4 by omega) (nv W (376 + 103 * t.toNatClampNeg + 22)) 0 7 m1 (by omega) a1.2.2 (by omega)
    rw [← ht1] at g3
    have hp := a1.tr g2
    refine ⟨Int32.ofNat w2, m2, ⟨fun i h1 h2 => ?_, fun k h1 h2 => ?_, w2, g1, hp.2.2⟩, fun d hd => ?_⟩
    · rw [hp.1 i h1 h2, zm2_i _ _ h1, zm2_i _ _ h1]
    · rw [hp.2.1 k h2, zm2_k _ _ h2, zm2_k _ _ h1]
    · obtain ⟨d, rfl⟩ : ∃ k, d = k + 1 := ⟨d - 1, by omega⟩
      show zEv σ (d + 1) 1910 0 [some (.ref 137), some (.int t), none] [] _ _ _
      refine zeP rfl rfl ?_
      refine zeP rfl rfl ?_
      refine zeCF rfl rfl rfl rfl rfl rfl (c_noThread (m := m) (W := W) (t := t)) (by omega) ?_
      dsimp only [Option.toList, List.cons_append, List.nil_append]
      rw [e, e2]
      refine zeT1 rfl rfl (show zc1 .eq (Int32.ofNat 0) = true by decide) ?_
      refine zeP rfl rfl ?_
      refine zeKn (c := 0) rfl rfl rfl ?_
      refine zeFP rfl rfl rfl ?_
      refine zeP rfl rfl ?_
      refine zeS rfl rfl rfl ?_
      refine zeCF rfl rfl rfl rfl rfl rfl b1 (by omega) ?_
      dsimp only [Option.toList, List.cons_append, List.nil_append]
      refine zeKn (c := 0) rfl rfl rfl ?_
      refine zeP rfl rfl ?_
      exact g3 d (by omega)
end ZTX
end
section
noncomputable def q_octet (m : Nat → Nat → Int32) (k : Int32) (w : Nat) : Int32 × (Nat → Nat → Int32) := (bif zc1 .eq (q_in k ((Int32.ofNat 0)) (((Int32.ofNat w) - (Int32.ofNat 1)))) then ((-1), (zm2 m 137 0 (Int32.ofNat 0))) else ((((zm2 m 137 0 (Int32.ofNat 0))) 145 ((k.toNatClampNeg))), (zm2 m 137 0 (Int32.ofNat 0))))
theorem p_octet {σ : Nat → Nat × (Nat → Int32)} {yy : (Nat → Nat → Int64) × Bool × Nat × Nat} {m : Nat → Nat → Int32} {W : Nat → Int32} {k : Int32} {w : Nat} {d : Nat} (hd : 2 ≤ d + 1) (hw : m 137 16 = Int32.ofNat w) (hw4 : w ≤ 400) : zEv σ (d + 1) 1911 0 [some (.ref 137), some (.int k)] [] (zS1, zrow m 138 W, yy) (.inl (some (.int (q_octet m k w).1))) (zS1, zrow ((q_octet m k w).2) 138 W, yy) := by
  refine zeP rfl rfl ?_
  refine zeKn (c := 0) rfl rfl rfl ?_
  refine zeFP rfl rfl rfl ?_
  refine zeP rfl rfl ?_
  refine zeKn (c := 0) rfl rfl rfl ?_
  refine zeP rfl rfl ?_
  refine zeFI rfl rfl rfl rfl ?_
  rw [(show zm2 m 137 0 (Int32.ofNat 0) 137 16 = Int32.ofNat w by rw [zm2_k _ _ (by decide)]; exact hw)]
  refine zeKn (c := 1) rfl rfl rfl ?_
  refine zeP rfl rfl ?_
  refine zeCF rfl rfl rfl rfl rfl rfl (c_in (m := (zm2 m 137 0 (Int32.ofNat 0))) (W := W) (v := k) (lo := (Int32.ofNat 0)) (hi := ((Int32.ofNat w) - (Int32.ofNat 1))) ) (by omega) ?_
  dsimp only [Option.toList, List.cons_append, List.nil_append]
  refine zeB1 rfl rfl (fun h1 => ?_) (fun h1 => ?_)
  · refine zeK (v := -1) rfl rfl rfl ?_
    exact zeRe rfl rfl rfl rfl (by simp only [q_octet, h1, cond_true, cond_false] <;> rfl) (by simp only [q_octet, h1, cond_true, cond_false] <;> rfl)
  · have ck : k = Int32.ofNat k.toNatClampNeg ∧ k.toNatClampNeg < w := (in_n (by omega) (zne h1))
    refine zeP rfl rfl ?_
    refine zeGR rfl rfl zS137 rfl rfl ?_
    refine zeKn (c := k.toNatClampNeg) rfl rfl ck.1 ?_
    refine zeQBL (a := 145) (k := (k.toNatClampNeg)) rfl (by decide) rfl rfl (by have := ck.2; omega) ?_
    refine zeP rfl rfl ?_
    exact zeRe rfl rfl rfl rfl (by simp only [q_octet, h1, cond_true, cond_false] <;> rfl) (by simp only [q_octet, h1, cond_true, cond_false] <;> rfl)
theorem c_octet {σ : Nat → Nat × (Nat → Int32)} {yy : (Nat → Nat → Int64) × Bool × Nat × Nat} {m : Nat → Nat → Int32} {W : Nat → Int32} {k : Int32} {w : Nat} (hw : m 137 16 = Int32.ofNat w) (hw4 : w ≤ 400) : zF σ 2 1911 [.ref 137, .int k] (zS1, zrow m 138 W, yy) (.inl (some (.int (q_octet m k w).1))) (zS1, zrow ((q_octet m k w).2) 138 W, yy) := by
  intro d hd
  obtain ⟨d, rfl⟩ : ∃ k, d = k + 1 := ⟨d - 1, by omega⟩
  exact p_octet hd hw hw4
end
section
/-! the class's deeds and places are in order, and stay so -/
noncomputable def DT (m : Nat → Nat → Int32) (b t : Nat) : Prop := okm m (b + 10 + 7 * t) 2 24 ∧ okm m (b + 10 + 7 * t) 3 24 ∧ okm m (b + 14 + 7 * t) 1 23 ∧ (m (b + 14 + 7 * t) 0 = 0 ∨ m (b + 14 + 7 * t) 0 = 1) ∧ ∀ p, p < 24 → okm m (b + 11 + 7 * t) p 7 ∧ okm m (b + 12 + 7 * t) p 999 ∧ (mv m (b + 11 + 7 * t) p ≤ 1 → mv m (b + 12 + 7 * t) p ≤ 3) ∧ (mv m (b + 11 + 7 * t) p ≤ 3 → mv m (b + 12 + 7 * t) p ≤ 31)
noncomputable def KX (m : Nat → Nat → Int32) (b : Nat) (P : Nat → Prop) : Prop := (∀ t, t < 4 → DT m b t) ∧ LTC m b ∧ ∀ t, t < 4 → P t → mv m (b + 10 + 7 * t) 3 < 24
noncomputable def DCc (b a k : Nat) : Prop := (a = b ∧ k = 8) ∨ ∃ t, t < 4 ∧ ((a = b + 10 + 7 * t ∧ (k = 2 ∨ k = 3)) ∨ (a = b + 14 + 7 * t ∧ (k = 0 ∨ k = 1)) ∨ a = b + 11 + 7 * t ∨ a = b + 12 + 7 * t)
theorem mv_of {m m' : Nat → Nat → Int32} {a k : Nat} (e : m' a k = m a k) : mv m' a k = mv m a k := by
  unfold mv
  rw [e]
theorem DT.of {m m' : Nat → Nat → Int32} {b t : Nat} (h : DT m b t) (e2 : m' (b + 10 + 7 * t) 2 = m (b + 10 + 7 * t) 2) (e3 : okm m' (b + 10 + 7 * t) 3 24) (e1 : okm m' (b + 14 + 7 * t) 1 23) (e0 : m' (b + 14 + 7 * t) 0 = 0 ∨ m' (b + 14 + 7 * t) 0 = 1) (eK : ∀ p, m' (b + 11 + 7 * t) p = m (b + 11 + 7 * t) p) (eN : ∀ p, m' (b + 12 + 7 * t) p = m (b + 12 + 7 * t) p) : DT m' b t := by
  unfold DT
  refine ⟨h.1.of e2, e3, e1, e0, fun p hp => ?_⟩
  rw [mv_of (eK p), mv_of (eN p)]
  obtain ⟨a1, a2, a3⟩ := h.2.2.2.2 p hp
  exact ⟨a1.of (eK p), a2.of (eN p), a3⟩
theorem DT.same {m m' : Nat → Nat → Int32} {b t : Nat} (h : DT m b t) (ht : t < 4) (e : ∀ a k, DCc b a k → m' a k = m a k) : DT m' b t := by
  have es : ∀ k, k = 2 ∨ k = 3 → m' (b + 10 + 7 * t) k = m (b + 10 + 7 * t) k := fun k hk => e _ _ (Or.inr ⟨t, ht, Or.inl ⟨rfl, hk⟩⟩)
  have eg : ∀ k, k = 0 ∨ k = 1 → m' (b + 14 + 7 * t) k = m (b + 14 + 7 * t) k := fun k hk => e _ _ (Or.inr ⟨t, ht, Or.inr (Or.inl ⟨rfl, hk⟩)⟩)
  refine h.of (es 2 (Or.inl rfl)) (h.2.1.of (es 3 (Or.inr rfl))) (h.2.2.1.of (eg 1 (Or.inr rfl))) ?_ (fun p => e _ _ (Or.inr ⟨t, ht, Or.inr (Or.inr (Or.inl rfl))⟩)) (fun p => e _ _ (Or.inr ⟨t, ht, Or.inr (Or.inr (Or.inr rfl))⟩))
  rw [eg 0 (Or.inl rfl)]
  exact h.2.2.2.1
theorem LTC.of {m m' : Nat → Nat → Int32} {b : Nat} (h : LTC m b) (e : m' b 8 = m b 8) : LTC m' b := by
  unfold LTC ltc at *
  rw [e]
  exact h
section ZKX
variable {m m' : Nat → Nat → Int32} {b t l w : Nat} {P : Nat → Prop}
theorem KX.same (h : KX m b P) (e : ∀ a k, DCc b a k → m' a k = m a k) : KX m' b P := by
  refine ⟨fun t ht => (h.1 t ht).same ht e, h.2.1.of (e _ _ (Or.inl ⟨rfl, rfl⟩)), fun t ht hp => ?_⟩
  have es : ∀ k, k = 2 ∨ k = 3 → m' (b + 10 + 7 * t) k = m (b + 10 + 7 * t) k := fun k hk => e _ _ (Or.inr ⟨t, ht, Or.inl ⟨rfl, hk⟩⟩)
  rw [mv_of (es 3 (Or.inr rfl))]
  exact h.2.2 t ht hp
theorem KX.put {a k : Nat} (h : KX m b P) (x : Int32) (hf : ¬ DCc b a k) : KX (zm2 m a k x) b P := h.same (fun i l hc => zx_o _ _ (fun e => hf (by rw [← e.1, ← e.2]; exact hc)))
theorem KX.mono {Q : Nat → Prop} (h : KX m b P) (hq : ∀ t, t < 4 → Q t → P t) : KX m b Q := ⟨h.1, h.2.1, fun t ht hp => h.2.2 t ht (hq t ht hp)⟩
theorem ndM {k : Nat} (hk : k ≠ 8) : ¬ DCc b b k := by
  rintro (⟨_, _⟩ | ⟨u, _, ⟨_, _⟩ | ⟨_, _⟩ | _ | _⟩) <;> omega
theorem ndS {k : Nat} (ht : t < 4) (h2 : k ≠ 2) (h3 : k ≠ 3) : ¬ DCc b (b + 10 + 7 * t) k := by
  rintro (⟨_, _⟩ | ⟨u, _, ⟨_, _⟩ | ⟨_, _⟩ | _ | _⟩) <;> omega
theorem ndG {k : Nat} (ht : t < 4) (h2 : k ≠ 0) (h3 : k ≠ 1) : ¬ DCc b (b + 14 + 7 * t) k := by
  rintro (⟨_, _⟩ | ⟨u, _, ⟨_, _⟩ | ⟨_, _⟩ | _ | _⟩) <;> omega
theorem ndF {k : Nat} (ht : t < 4) : ¬ DCc b (b + 13 + 7 * t) k := by
  rintro (⟨_, _⟩ | ⟨u, _, ⟨_, _⟩ | ⟨_, _⟩ | _ | _⟩) <;> omega
theorem ndO {k : Nat} (ht : t < 4) : ¬ DCc b (b + 15 + 7 * t) k := by
  rintro (⟨_, _⟩ | ⟨u, _, ⟨_, _⟩ | ⟨_, _⟩ | _ | _⟩) <;> omega
theorem ndV {k : Nat} (ht : t < 4) : ¬ DCc b (b + 16 + 7 * t) k := by
  rintro (⟨_, _⟩ | ⟨u, _, ⟨_, _⟩ | ⟨_, _⟩ | _ | _⟩) <;> omega
theorem ndL {k : Nat} (hl : l < 4) : ¬ DCc b (b + 5 + l) k := by
  rintro (⟨_, _⟩ | ⟨u, _, ⟨_, _⟩ | ⟨_, _⟩ | _ | _⟩) <;> omega
theorem ndX {a k : Nat} (h1 : b < a) (h2 : a < b + 10 ∨ b + 38 ≤ a) : ¬ DCc b a k := by
  rintro (⟨_, _⟩ | ⟨u, _, ⟨_, _⟩ | ⟨_, _⟩ | _ | _⟩) <;> omega
theorem KX.at {u n : Nat} (h : KX m b P) (hu : u < 4) (hn : n ≤ 24) (hp2 : P u → n < 24) : KX (zm2 m (b + 10 + 7 * u) 3 (Int32.ofNat n)) b P := by
  refine ⟨fun t ht => ?_, h.2.1.of (zx_ne _ _ _ (by omega)), fun t ht hp => ?_⟩
  · by_cases e : t = u
    · subst e
      exact (h.1 t ht).of (zx_nk _ _ (by omega)) (okm.is (zx_at _ _ _ _) (by omega) (by omega)) ((h.1 t ht).2.2.1.of (zx_ne _ _ _ (by omega))) (by rw [zx_ne _ _ _ (by omega)]; exact (h.1 t ht).2.2.2.1) (fun p => zx_ne _ _ _ (by omega)) (fun p => zx_ne _ _ _ (by omega))
    · exact (h.1 t ht).of (zx_ne _ _ _ (by omega)) ((h.1 t ht).2.1.of (zx_ne _ _ _ (by omega))) ((h.1 t ht).2.2.1.of (zx_ne _ _ _ (by omega))) (by rw [zx_ne _ _ _ (by omega)]; exact (h.1 t ht).2.2.2.1) (fun p => zx_ne _ _ _ (by omega)) (fun p => zx_ne _ _ _ (by omega))
  · by_cases e : t = u
    · subst e
      unfold mv
      rw [zx_at, nv_on (by omega)]
      exact hp2 hp
    · rw [mv_of (m := m) (zx_ne _ _ _ (by omega))]
      exact h.2.2 t ht hp
theorem KX.g0 {u : Nat} {x : Int32} (h : KX m b P) (hu : u < 4) (hx : x = 0 ∨ x = 1) : KX (zm2 m (b + 14 + 7 * u) 0 x) b P := by
  refine ⟨fun t ht => ?_, h.2.1.of (zx_ne _ _ _ (by omega)), fun t ht hp => ?_⟩
  · refine (h.1 t ht).of (zx_ne _ _ _ (by omega)) ((h.1 t ht).2.1.of (zx_ne _ _ _ (by omega))) ((h.1 t ht).2.2.1.of (zx_o _ _ (by omega))) ?_ (fun p => zx_ne _ _ _ (by omega)) (fun p => zx_ne _ _ _ (by omega))
    by_cases e : t = u
    · subst e; rw [zx_at]; exact hx
    · rw [zx_ne _ _ _ (by omega)]; exact (h.1 t ht).2.2.2.1
  · rw [mv_of (m := m) (zx_ne _ _ _ (by omega))]
    exact h.2.2 t ht hp
theorem KX.g1 {u n : Nat} (h : KX m b P) (hu : u < 4) (hn : n ≤ 23) : KX (zm2 m (b + 14 + 7 * u) 1 (Int32.ofNat n)) b P := by
  refine ⟨fun t ht => ?_, h.2.1.of (zx_ne _ _ _ (by omega)), fun t ht hp => ?_⟩
  · refine (h.1 t ht).of (zx_ne _ _ _ (by omega)) ((h.1 t ht).2.1.of (zx_ne _ _ _ (by omega))) ?_ (by rw [zx_o _ _ (by omega)]; exact (h.1 t ht).2.2.2.1) (fun p => zx_ne _ _ _ (by omega)) (fun p => zx_ne _ _ _ (by omega))
    by_cases e : t = u
    · subst e
      exact okm.is (zx_at _ _ _ _) (by omega) (by omega)
    · exact (h.1 t ht).2.2.1.of (zx_ne _ _ _ (by omega))
  · rw [mv_of (m := m) (zx_ne _ _ _ (by omega))]
    exact h.2.2 t ht hp
theorem KX.lt {u : Nat} (h : KX m b P) (hu : u < 4) : KX (zm2 m b 8 (Int32.ofNat u)) b P := by
  refine ⟨fun t ht => ?_, ?_, fun t ht hp => ?_⟩
  · exact (h.1 t ht).of (zx_ne _ _ _ (by omega)) ((h.1 t ht).2.1.of (zx_ne _ _ _ (by omega))) ((h.1 t ht).2.2.1.of (zx_ne _ _ _ (by omega))) (by rw [zx_ne _ _ _ (by omega)]; exact (h.1 t ht).2.2.2.1) (fun p => zx_ne _ _ _ (by omega)) (fun p => zx_ne _ _ _ (by omega))
  · unfold LTC ltc
    rw [zx_at, ← Int32.ofNat_add, nv_on (by omega)]
    exact ⟨rfl, by omega⟩
  · rw [mv_of (m := m) (zx_ne _ _ _ (by omega))]
    exact h.2.2 t ht hp
theorem KX.logAdd (h : KX m b P) (t u w v : Int32) : KX (x_logAdd m b t u w v) b P := by
  refine h.same (fun a k hc => logAdd_ne ?_ ?_)
  · rintro rfl
    exact ndX (by omega) (by omega) hc
  · rintro rfl
    exact ndX (by omega) (by omega) hc
theorem KX.close (h : KX m b P) (ht : t < 4) : KX (x_close m b t) b P := by
  unfold x_close
  exact ((((h.g0 ht (Or.inl rfl)).put _ (ndG ht (by omega) (by omega))).put _ (ndG ht (by omega) (by omega))).put _ (ndG ht (by omega) (by omega))).put _ (ndG ht (by omega) (by omega))
theorem KX.lose {x : Int32} (h : KX m b P) (hl : l < 4) : KX (x_lose m b l x) b P := by
  unfold x_lose
  exact cndi (fun q : Nat → Nat → Int32 => KX q b P) (h.put _ (ndL hl)) (h.put _ (ndL hl))
theorem KX.gain {x : Int32} (h : KX m b P) (hl : l < 4) : KX (x_gain m b l x) b P := by
  unfold x_gain
  exact cndi (fun q : Nat → Nat → Int32 => KX q b P) (h.put _ (ndL hl)) (h.put _ (ndL hl))
theorem KX.fall {y : Nat} (h : KX m b P) (hc : CG m b) (ht : t < 4) : KX (x_fall m b t y).2 b P := by
  have hl := hc.l4 ht
  have h1 := (h.1 t ht).2.2.1
  have hA : KX (zm2 m (b + 10 + 7 * t) 3 (m (b + 14 + 7 * t) 1)) b P := by
    rw [h1.1]
    exact h.at ht (by have := h1.2; omega) (fun hp => by have := h1.2; omega)
  unfold x_fall
  dsimp only
  refine KX.logAdd ?_ _ _ _ _
  refine KX.close ?_ ht
  refine KX.lose ?_ hl
  exact (((hA.put _ (ndS ht (by omega) (by omega))).put _ (ndS ht (by omega) (by omega))).put _ (ndS ht (by omega) (by omega))).put _ (ndF ht)
theorem KX.gwrite {v x : Int32} (h : KX m b P) (ht : t < 4) : KX (x_gwrite m b t w v x) b P := by
  unfold x_gwrite
  exact ((h.put _ (ndV ht)).put _ (ndG ht (by omega) (by omega))).put _ (ndG ht (by omega) (by omega))
theorem KX.reachC {v x r g o : Int32} (h : KX m b P) (ht : t < 4) : KX (x_reachC m b t w v x r g o).2 b P := by
  unfold x_reachC
  exact cndi (fun q : QM => KX q.2 b P) (cndi (fun q : QM => KX q.2 b P) h (h.put _ (ndX (by omega) (by omega)))) (cndi (fun q : QM => KX q.2 b P) (h.put _ (ndG ht (by omega) (by omega))) (h.gwrite ht))
theorem reachL_kx {n5 : Nat} {v x r g o : Int32} (ht : t < 4) (hn : n5 ≤ 4) : ∀ (n k : Nat) (m : Nat → Nat → Int32), k + n = n5 → CG m b → KX m b P → KX (xl_reachL b t w v x r g o n5 n k m).2 b P := by
  intro n
  induction n with
  | zero => intro k m hk _ h; exact h.reachC ht
  | succ n ih =>
    intro k m hk hc h
    rw [xl_reachL]
    exact cndi (fun q : QM => KX q.2 b P) (ih _ _ (by omega) hc h) (ih _ _ (by omega) (hc.fall (by omega) (by omega)) (h.fall hc (by omega)))
theorem KX.reachB {v x r g : Int32} (h : KX m b P) (hc : CG m b) (ht : t < 4) : KX (x_reachB m b t w v x r g).2 b P := by
  unfold x_reachB
  have a := reachL_kx (P := P) (b := b) (w := w) (v := v) (x := x) (r := r) (g := g) (o := x_holders m b x (Int32.ofNat t) r) ht hc.c4 (mv m b 5) 0 m (by omega) hc h
  have f := h.fall (y := 0) hc ht
  generalize xl_reachL b t w v x r g (x_holders m b x (Int32.ofNat t) r) (mv m b 5) (mv m b 5) 0 m = c at a ⊢
  generalize x_fall m b t 0 = cf at f ⊢
  exact cndi (fun q : QM => KX q.2 b P) a (cndi (fun q : QM => KX q.2 b P) a (cndi (fun q : QM => KX q.2 b P) a f))
theorem KX.reach {v : Int32} (h : KX m b P) (hc : CG m b) (ht : t < 4) : KX (x_reach m b t w v).2 b P := by
  unfold x_reach
  have f := h.fall (y := 1) hc ht
  generalize x_fall m b t 1 = cf at f ⊢
  exact cndi (fun q : QM => KX q.2 b P) (cndi (fun q : QM => KX q.2 b P) (h.reachB hc ht) (h.reachB hc ht)) (cndi (fun q : QM => KX q.2 b P) (h.reachB hc ht) (cndi (fun q : QM => KX q.2 b P) (h.reachB hc ht) f))
theorem KX.leaveOut {l : Int32} (h : KX m b P) (ht : t < 4) : KX (x_leaveOut m b t l) b P := by
  unfold x_leaveOut
  exact cndi (fun q : Nat → Nat → Int32 => KX q b P) h ((h.put _ (ndO ht)).put _ (ndG ht (by omega) (by omega)))
theorem KX.begin {y z : Int32} (h : KX m b P) (ht : t < 4) (hp : P t) : KX (x_begin m b t (m (b + 10 + 7 * t) 3) y z) b P := by
  have h3 := (h.1 t ht).2.1
  have hl := h.2.2 t ht hp
  unfold x_begin
  have h0 := h.g0 ht (Or.inr rfl)
  have h1 : KX (zm2 (zm2 m (b + 14 + 7 * t) 0 (Int32.ofNat 1)) (b + 14 + 7 * t) 1 (m (b + 10 + 7 * t) 3)) b P := by
    rw [h3.1]
    exact h0.g1 ht (by omega)
  exact (h1.put _ (ndG ht (by omega) (by omega))).put _ (ndG ht (by omega) (by omega))
theorem keepL_kx (ht : t < 4) (hl : l < 4) : ∀ (n k : Nat) (m : Nat → Nat → Int32), KX m b P → KX (xl_keep b t l n k m) b P := by
  intro n
  induction n with
  | zero =>
    intro k m h
    rw [xl_keep]
    exact KX.logAdd (((((h.close ht).put _ (ndS ht (by omega) (by omega))).put _ (ndS ht (by omega) (by omega))).gain hl).put _ (ndL hl)) _ _ _ _
  | succ n ih =>
    intro k m h
    rw [xl_keep]
    exact ih _ _ (h.put _ (ndX (by omega) (by omega)))
theorem KX.keep (h : KX m b P) (ht : t < 4) (hl : l < 4) : KX (x_keep m b t l) b P := keepL_kx ht hl _ _ _ h
theorem KX.takePB (h : KX m b P) (hc : CG m b) (ht : t < 4) (hp : P t) (hl : l < 4) : KX (x_takePB m b t l).2 b P := by
  unfold x_takePB
  have ar := h.reach (w := mv m (b + 5 + l) 0) (v := Int32.ofNat 1) hc ht
  have hb : ∀ y z, KX (x_begin m b t (m (b + 10 + 7 * t) 3) y z) b P := fun y z => h.begin ht hp
  generalize x_reach m b t (mv m (b + 5 + l) 0) (Int32.ofNat 1) = c at ar ⊢
  generalize m (b + 10 + 7 * t) 3 = A at hb ⊢
  have a1 : KX (zm2 (zm2 c.2 (b + 10 + 7 * t) 5 (Int32.ofNat 0)) (b + 5 + l) 2 (zm2 c.2 (b + 10 + 7 * t) 5 (Int32.ofNat 0) (b + 5 + l) 2 + Int32.ofNat 1)) b P := (ar.put _ (ndS ht (by omega) (by omega))).put _ (ndL hl)
  generalize zm2 (zm2 c.2 (b + 10 + 7 * t) 5 (Int32.ofNat 0)) (b + 5 + l) 2 (zm2 c.2 (b + 10 + 7 * t) 5 (Int32.ofNat 0) (b + 5 + l) 2 + Int32.ofNat 1) = m1 at a1 ⊢
  have a2 : ∀ x y z u : Int32, KX (x_logAdd m1 b x y z u) b P := fun x y z u => a1.logAdd _ _ _ _
  have a3 : ∀ x y z u w : Int32, KX (x_logAdd (x_gain m1 b l w) b x y z u) b P := fun x y z u w => (a1.gain hl).logAdd _ _ _ _
  have a4 : ∀ y z u v p q r : Int32, KX (x_logAdd (zm2 (x_leaveOut (x_begin m b t A y z) b t (Int32.ofNat l)) (b + 14 + 7 * t) 6 u) b v p q r) b P := fun y z u v p q r => KX.logAdd (((hb y z).leaveOut ht).put _ (ndG ht (by omega) (by omega))) _ _ _ _
  exact cndi (fun q : QM => KX q.2 b P) (cndi (fun q : QM => KX q.2 b P) (cndi (fun q : QM => KX q.2 b P) (a2 _ _ _ _) (a3 _ _ _ _ _)) (cndi (fun q : QM => KX q.2 b P) (cndi (fun q : QM => KX q.2 b P) (a2 _ _ _ _) (a3 _ _ _ _ _)) (a4 _ _ _ _ _ _ _))) h
theorem KX.takePlainly (h : KX m b P) (hc : CG m b) (ht : t < 4) (hp : P t) (hl : l < 4) : KX (x_takePlainly m b t l).2 b P := (h.reach hc ht).takePB (hc.reach ht) ht hp hl
theorem KX.takeGB (h : KX m b P) (hc : CG m b) (ht : t < 4) : KX (x_takeGB m b t l w).2 b P := by
  unfold x_takeGB
  have ar := h.reach (w := w) (v := Int32.ofNat 1) hc ht
  have f4 := h.fall (y := 4) hc ht
  have f2 := h.fall (y := 2) hc ht
  generalize x_reach m b t w (Int32.ofNat 1) = c at ar ⊢
  generalize x_fall m b t 4 = c4 at f4 ⊢
  generalize x_fall m b t 2 = c2 at f2 ⊢
  exact cndi (fun q : QM => KX q.2 b P) (cndi (fun q : QM => KX q.2 b P) (cndi (fun q : QM => KX q.2 b P) ar (h.leaveOut ht)) f4) f2
theorem KX.takeGuessing (h : KX m b P) (hc : CG m b) (ht : t < 4) : KX (x_takeGuessing m b t l).2 b P := by
  unfold x_takeGuessing
  have ar := h.reach (w := mv m (b + 5 + l) 0) (v := -1) hc ht
  have cr := hc.reach (w := mv m (b + 5 + l) 0) (v := -1) ht
  generalize x_reach m b t (mv m (b + 5 + l) 0) (-1) = c at ar cr ⊢
  exact cndi (fun q : QM => KX q.2 b P) (ar.takeGB cr ht) ar
theorem KX.getWord (h : KX m b P) (hc : CG m b) (ht : t < 4) : KX (x_getWord m b t w).2 b P := by
  unfold x_getWord
  have ar := h.reach (w := w) (v := -1) hc ht
  generalize x_reach m b t w (-1) = c at ar ⊢
  exact cndi (fun q : QM => KX q.2 b P) ar (ar.put _ (ndS ht (by omega) (by omega)))
theorem KX.dropLock (h : KX m b P) (hc : CG m b) (ht : t < 4) (hl : l < 4) : KX (x_dropLock m b t l).2 b P := by
  unfold x_dropLock
  have ar := h.reach (w := mv m (b + 5 + l) 0) (v := Int32.ofNat 0) hc ht
  have f2 := h.fall (y := 2) hc ht
  have hs : ∀ x, KX (zm2 m (b + 14 + 7 * t) 5 x) b P := fun x => h.put _ (ndG ht (by omega) (by omega))
  generalize x_reach m b t (mv m (b + 5 + l) 0) (Int32.ofNat 0) = c at ar ⊢
  generalize x_fall m b t 2 = c2 at f2 ⊢
  have al : ∀ x y z u : Int32, KX (x_logAdd c.2 b x y z u) b P := fun x y z u => ar.logAdd _ _ _ _
  exact cndi (fun q : QM => KX q.2 b P) (cndi (fun q : QM => KX q.2 b P) ar (cndi (fun q : QM => KX q.2 b P) ar (al _ _ _ _))) (cndi (fun q : QM => KX q.2 b P) (cndi (fun q : QM => KX q.2 b P) ar (cndi (fun q : QM => KX q.2 b P) ar (al _ _ _ _))) (cndi (fun q : QM => KX q.2 b P) (cndi (fun q : QM => KX q.2 b P) (hs _) ((hs _).keep ht hl)) f2))
theorem KX.goOnWorking {n : Int32} (h : KX m b P) (ht : t < 4) : KX (x_goOnWorking m b t n).2 b P := by
  unfold x_goOnWorking
  exact cndi (fun q : QM => KX q.2 b P) (h.put _ (ndS ht (by omega) (by omega))) (h.put _ (ndS ht (by omega) (by omega)))
theorem KX.putOut (h : KX m b P) (hc : CG m b) (ht : t < 4) : KX (x_putOut m b t).2 b P := by
  unfold x_putOut
  have f3 := h.fall (y := 3) hc ht
  generalize x_fall m b t 3 = c3 at f3 ⊢
  exact cndi (fun q : QM => KX q.2 b P) (cndi (fun q : QM => KX q.2 b P) (h.logAdd _ _ _ _) (KX.logAdd (((h.put _ (ndX (by omega) (by omega))).put _ (ndX (by omega) (by omega))).put _ (ndM (by omega))) _ _ _ _)) f3
noncomputable def P0 : Nat → Prop := fun _ => False
theorem KX.moveOn (h : KX m b P) (hc : CG m b) (ht : t < 4) (hp : P t) : KX (x_moveOn m b t).2 b P0 := by
  unfold x_moveOn
  have h3 := (h.1 t ht).2.1
  have hl := h.2.2 t ht hp
  have h0 : KX m b P0 := h.mono (fun _ _ q => absurd q id)
  have c1 : CG (zm2 (zm2 m (b + 10 + 7 * t) 3 (m (b + 10 + 7 * t) 3 + Int32.ofNat 1)) (b + 10 + 7 * t) 7 (Int32.ofNat 0)) b := (hc.put _ (ncS ht)).put _ (ncS ht)
  have h1 : KX (zm2 (zm2 m (b + 10 + 7 * t) 3 (m (b + 10 + 7 * t) 3 + Int32.ofNat 1)) (b + 10 + 7 * t) 7 (Int32.ofNat 0)) b P0 := by
    refine KX.put ?_ _ (ndS ht (by omega) (by omega))
    rw [h3.1, ← Int32.ofNat_add]
    exact h0.at ht (by omega) (fun q => absurd q id)
  generalize zm2 (zm2 m (b + 10 + 7 * t) 3 (m (b + 10 + 7 * t) 3 + Int32.ofNat 1)) (b + 10 + 7 * t) 7 (Int32.ofNat 0) = m1 at h1 c1 ⊢
  exact cndi (fun q : QM => KX q.2 b P0) (cndi (fun q : QM => KX q.2 b P0) (h1.logAdd _ _ _ _) (h1.fall c1 ht)) h1
theorem KX.stepE {r : Int32} (h : KX m b P) (hc : CG m b) (ht : t < 4) (hp : P t) : KX (x_stepE m b t r).2 b P0 := by
  unfold x_stepE
  have a := h.moveOn hc ht hp
  have h0 : KX m b P0 := h.mono (fun _ _ q => absurd q id)
  generalize x_moveOn m b t = c at a ⊢
  exact cndi (fun q : QM => KX q.2 b P0) ((h0.put _ (ndM (by omega))).lt ht) ((a.put _ (ndM (by omega))).lt ht)
end ZKX
/-- a step of the class, by the kind of its deed -/
noncomputable def x_takeStep (m : Nat → Nat → Int32) (b t : Nat) : Int32 × (Nat → Nat → Int32) := match mv m (b + 11 + 7 * t) (mv m (b + 10 + 7 * t) 3) with
  | 0 => x_takeStep0 m b t
  | 1 => x_takeStep1 m b t
  | 2 => x_takeStep2 m b t
  | 3 => x_takeStep3 m b t
  | 4 => x_takeStep4 m b t
  | 5 => x_takeStep5 m b t
  | 6 => x_takeStep6 m b t
  | _ => x_takeStep7 m b t
theorem xc_takeStep {σ : Nat → Nat × (Nat → Int32)} {yy : (Nat → Nat → Int64) × Bool × Nat × Nat} {m : Nat → Nat → Int32} {b t : Nat} (hb : BB b) (hc : CG m b) (h : KX m b (fun u => u = t)) (ht : t < 4) : zF σ 5 611 [.ref b, .int (Int32.ofNat t)] (zS1, m, yy) (.inl (some (.int (x_takeStep m b t).1))) (zS1, (x_takeStep m b t).2, yy) ∧ KX (x_takeStep m b t).2 b P0 ∧ CG (x_takeStep m b t).2 b := by
  have hD := h.1 t ht
  have hA := hD.2.1
  have hA24 : mv m (b + 10 + 7 * t) 3 < 24 := h.2.2 t ht rfl
  obtain ⟨k1, k2, k3, k4⟩ := hD.2.2.2.2 _ hA24
  unfold x_takeStep
  generalize hK : mv m (b + 11 + 7 * t) (mv m (b + 10 + 7 * t) 3) = K at k3 k4
  have e := k1.1
  rw [hK] at e
  have hK7 : K ≤ 7 := by rw [← hK]; exact k1.2
  match K, hK7, e, k3, k4 with
  | 0, _, e, k3, _ =>
    have := k3 (by omega)
    refine ⟨(xc_takeStep0 hb hc ht hA.1 hA24 k2.1 e (by omega)).up (by omega), ?_, ?_⟩
    · show KX (x_takeStep0 m b t).2 b P0
      unfold x_takeStep0
      exact cndi (fun q : QM => KX q.2 b P0) ((h.takePlainly hc ht rfl (by omega)).stepE (hc.takePlainly ht (by omega)) ht rfl) ((h.takeGuessing hc ht).stepE (hc.takeGuessing ht (by omega)) ht rfl)
    · show CG (x_takeStep0 m b t).2 b
      unfold x_takeStep0
      exact cndi (fun q : QM => CG q.2 b) ((hc.takePlainly ht (by omega)).stepE ht) ((hc.takeGuessing ht (by omega)).stepE ht)
  | 1, _, e, k3, _ =>
    have := k3 (by omega)
    exact ⟨(xc_takeStep1 hb hc ht hA.1 hA24 k2.1 e (by omega)).up (by omega), (h.dropLock hc ht (by omega)).stepE (hc.dropLock ht (by omega)) ht rfl, (hc.dropLock ht (by omega)).stepE ht⟩
  | 2, _, e, _, k4 =>
    have := k4 (by omega)
    exact ⟨(xc_takeStep2 hb hc ht hA.1 hA24 k2.1 e (by omega)).up (by omega), (h.getWord hc ht).stepE (hc.getWord ht) ht rfl, (hc.getWord ht).stepE ht⟩
  | 3, _, e, _, k4 =>
    have := k4 (by omega)
    exact ⟨(xc_takeStep3 hb hc ht hA.1 hA24 k2.1 e (by omega)).up (by omega), (h.reach hc ht).stepE (hc.reach ht) ht rfl, (hc.reach ht).stepE ht⟩
  | 4, _, e, _, _ =>
    exact ⟨(xc_takeStep4 hb hc ht hA.1 hA24 k2.1 e).up (by omega), (h.put _ (ndS ht (by omega) (by omega))).stepE (hc.put _ (ncS ht)) ht rfl, (hc.put _ (ncS ht)).stepE ht⟩
  | 5, _, e, _, _ =>
    exact ⟨(xc_takeStep5 hb hc ht hA.1 hA24 k2.1 e).up (by omega), (h.put _ (ndS ht (by omega) (by omega))).stepE (hc.put _ (ncS ht)) ht rfl, (hc.put _ (ncS ht)).stepE ht⟩
  | 6, _, e, _, _ =>
    refine ⟨(xc_takeStep6 hb hc ht hA.1 hA24 k2.1 e).up (by omega), (h.goOnWorking ht).stepE ?_ ht rfl, CG.stepE ?_ ht⟩
    · unfold x_goOnWorking
      exact cndi (fun q : QM => CG q.2 b) (hc.put _ (ncS ht)) (hc.put _ (ncS ht))
    · unfold x_goOnWorking
      exact cndi (fun q : QM => CG q.2 b) (hc.put _ (ncS ht)) (hc.put _ (ncS ht))
  | 7, _, e, _, _ =>
    exact ⟨(xc_takeStep7 hb hc ht hA.1 hA24 k2.1 e).up (by omega), (h.putOut hc ht).stepE (hc.putOut ht) ht rfl, (hc.putOut ht).stepE ht⟩
  | k + 8, h8, _, _, _ => exact absurd h8 (by omega)
end
section
section ZHB
variable {σ : Nat → Nat × (Nat → Int32)} {d : Nat} {lv : zLv} {st : List Value} {M M' : zMem} {o : zO}
theorem zeHB {K : Nat} (h2 : 2 ≤ K) (h7 : K ≤ 7) (k : zEv σ d 1208 50 lv st M o M') : zEv σ d 1208 13 lv (.int (Int32.ofNat K) :: st) M o M' := by
  match K, h2, h7 with
  | 2, _, _ => exact zeP rfl rfl k
  | 3, _, _ => exact zeP rfl rfl k
  | 4, _, _ => exact zeP rfl rfl k
  | 5, _, _ => exact zeP rfl rfl k
  | 6, _, _ => exact zeP rfl rfl k
  | 7, _, _ => exact zeP rfl rfl k
  | n + 8, _, h => exact absurd h (by omega)
end ZHB
noncomputable def x_heldBehind (m : Nat → Nat → Int32) (b : Nat) (t : Nat) (p : Nat) (h : Int32) : Int32 := (bif Nat.beq ((mv m (b + 11 + 7 * t) p)) 0 then (h ||| ((Int32.ofNat 1) <<< ((x_numberAt m b t p) &&& 31))) else (bif Nat.beq ((mv m (b + 11 + 7 * t) p)) 1 then (h &&& (((Int32.ofNat 1) <<< ((x_numberAt m b t p) &&& 31)) ^^^ (-1))) else h))
theorem xp_heldBehind {σ : Nat → Nat × (Nat → Int32)} {yy : (Nat → Nat → Int64) × Bool × Nat × Nat} {m : Nat → Nat → Int32} {b : Nat} {t : Nat} {p : Nat} {h : Int32} {d : Nat} (hd : 2 ≤ d + 1) (hb : BB b) (ht : t < 4) (hp : p < 24) (hD : DT m b t) : zEv σ (d + 1) 1208 0 [some (.ref (b + 10 + 7 * t)), some (.int (Int32.ofNat p)), some (.int h), none] [] (zS1, m, yy) (.inl (some (.int (x_heldBehind m b t p h)))) (zS1, m, yy) := by
  refine zeKn (c := 1) rfl rfl rfl ?_
  refine zeP rfl rfl ?_
  refine zeP rfl rfl ?_
  refine zeCV rfl rfl rfl rfl (shS hb (by omega)) rfl (xc_numberAt (m := m) (b := b) (t := t) (p := p) hb ht hp) (by omega) ?_
  dsimp only [Option.toList, List.cons_append, List.nil_append]
  refine zeP rfl rfl ?_
  refine zeP rfl rfl ?_
  refine zeP rfl rfl ?_
  refine zeP rfl rfl ?_
  refine zeCV rfl rfl rfl rfl (shS hb (by omega)) rfl (xc_kindAt (m := m) (b := b) (t := t) (p := p) hb ht hp) (by omega) ?_
  dsimp only [Option.toList, List.cons_append, List.nil_append]
  rw [(show x_kindAt m b t p = Int32.ofNat (mv m (b + 11 + 7 * t) p) from (hD.2.2.2.2 p (by omega)).1.1)]
  cases h1 : Nat.beq ((mv m (b + 11 + 7 * t) p)) 0 with
  | true =>
    refine zeSw (K := 0) rfl (by rw [Nat.eq_of_beq_eq_true h1]) rfl ?_
    refine zeP rfl rfl ?_
    refine zeP rfl rfl ?_
    refine zeP rfl rfl ?_
    exact zeRe rfl rfl rfl rfl (by simp only [x_heldBehind, h1, cond_true, cond_false] <;> rfl) (by simp only [x_heldBehind, h1, cond_true, cond_false] <;> rfl)
  | false =>
    cases h2 : Nat.beq ((mv m (b + 11 + 7 * t) p)) 1 with
    | true =>
      refine zeSw (K := 1) rfl (by rw [Nat.eq_of_beq_eq_true h2]) rfl ?_
      refine zeP rfl rfl ?_
      refine zeP rfl rfl ?_
      refine zeK (v := -1) rfl rfl rfl ?_
      refine zeP rfl rfl ?_
      refine zeP rfl rfl ?_
      exact zeRe rfl rfl rfl rfl (by simp only [x_heldBehind, h1, h2, cond_true, cond_false] <;> rfl) (by simp only [x_heldBehind, h1, h2, cond_true, cond_false] <;> rfl)
    | false =>
      refine zeHB (by have e0 := Nat.ne_of_beq_eq_false h1; have e1 := Nat.ne_of_beq_eq_false h2; omega) (hD.2.2.2.2 p hp).1.2 ?_
      refine zeP rfl rfl ?_
      exact zeRe rfl rfl rfl rfl (by simp only [x_heldBehind, h1, h2, cond_true, cond_false] <;> rfl) (by simp only [x_heldBehind, h1, h2, cond_true, cond_false] <;> rfl)
theorem xc_heldBehind {σ : Nat → Nat × (Nat → Int32)} {yy : (Nat → Nat → Int64) × Bool × Nat × Nat} {m : Nat → Nat → Int32} {b : Nat} {t : Nat} {p : Nat} {h : Int32} (hb : BB b) (ht : t < 4) (hp : p < 24) (hD : DT m b t) : zF σ 2 1208 [.ref (b + 10 + 7 * t), .int (Int32.ofNat p), .int h] (zS1, m, yy) (.inl (some (.int (x_heldBehind m b t p h)))) (zS1, m, yy) := by
  intro d hd
  obtain ⟨d, rfl⟩ : ∃ k, d = k + 1 := ⟨d - 1, by omega⟩
  exact xp_heldBehind hd hb ht hp hD
noncomputable def xl_mostHeld (m : Nat → Nat → Int32) (b : Nat) (t : Nat) : Nat → Int32 → Int32 → Nat → Int32
  | 0, a, h, k => a
  | n + 1, a, h, k => (xl_mostHeld m b t n ((if a < (x_bitCount ((x_heldBehind m b t k h))) then (x_bitCount ((x_heldBehind m b t k h))) else a)) ((x_heldBehind m b t k h)) ((k + 1)))
theorem xw_mostHeld {σ : Nat → Nat × (Nat → Int32)} {yy : (Nat → Nat → Int64) × Bool × Nat × Nat} {m : Nat → Nat → Int32} {b : Nat} {t : Nat} {d : Nat} (hd : 3 ≤ d + 1) (hb : BB b) (ht : t < 4) (hD : DT m b t) (h24 : mv m (b + 10 + 7 * t) 2 ≤ 24) : ∀ (n : Nat) (a : Int32) (h : Int32) (k : Nat), k + n = mv m (b + 10 + 7 * t) 2 → zEv σ (d + 1) 1209 6 [some (.ref (b + 10 + 7 * t)), some (.int a), some (.int h), some (.int (Int32.ofNat k))] [] (zS1, m, yy) (.inl (some (.int (xl_mostHeld m b t n a h k)))) (zS1, m, yy) := by
  intro n
  induction n with
  | zero =>
    intro a h k hk
    refine zeP rfl rfl ?_
    refine zeP rfl rfl ?_
    refine zeGI rfl rfl (shS hb (by omega)) rfl rfl ?_
    rw [hD.1.1]
    refine zeT2 rfl rfl (zcge (by omega) (by omega) (by omega)) ?_
    refine zeP rfl rfl ?_
    exact zeRe rfl rfl rfl rfl (by rfl) (by rfl)
  | succ n ih =>
    intro a h k hk
    refine zeP rfl rfl ?_
    refine zeP rfl rfl ?_
    refine zeGI rfl rfl (shS hb (by omega)) rfl rfl ?_
    rw [hD.1.1]
    refine zeF2 rfl rfl (zcge_f (by omega) (by omega) (by omega)) ?_
    refine zeP rfl rfl ?_
    refine zeP rfl rfl ?_
    refine zeP rfl rfl ?_
    refine zeCV rfl rfl rfl rfl (shS hb (by omega)) rfl (xc_heldBehind (m := m) (b := b) (t := t) (p := k) (h := h) hb ht (by omega) hD) (by omega) ?_
    dsimp only [Option.toList, List.cons_append, List.nil_append]
    refine zeP rfl rfl ?_
    refine zeP rfl rfl ?_
    refine zeP rfl rfl ?_
    refine zeCF rfl rfl rfl rfl rfl rfl (xc_bitCount (m := m) (i := (x_heldBehind m b t k h)) ) (by omega) ?_
    dsimp only [Option.toList, List.cons_append, List.nil_append]
    refine zeM rfl rfl rfl rfl rfl rfl rfl ?_
    refine zeP rfl rfl ?_
    refine zeInc rfl rfl ?_
    refine zeP rfl rfl ?_
    simp only [xl_mostHeld, cond_true, cond_false]
    exact ih ((if a < (x_bitCount ((x_heldBehind m b t k h))) then (x_bitCount ((x_heldBehind m b t k h))) else a)) ((x_heldBehind m b t k h)) ((k + 1))   (by omega) 
noncomputable def x_mostHeld (m : Nat → Nat → Int32) (b : Nat) (t : Nat) : Int32 := (xl_mostHeld m b t ((mv m (b + 10 + 7 * t) 2)) ((Int32.ofNat 0)) ((Int32.ofNat 0)) 0)
theorem xp_mostHeld {σ : Nat → Nat × (Nat → Int32)} {yy : (Nat → Nat → Int64) × Bool × Nat × Nat} {m : Nat → Nat → Int32} {b : Nat} {t : Nat} {d : Nat} (hd : 3 ≤ d + 1) (hb : BB b) (ht : t < 4) (hD : DT m b t) : zEv σ (d + 1) 1209 0 [some (.ref (b + 10 + 7 * t)), none, none, none] [] (zS1, m, yy) (.inl (some (.int (x_mostHeld m b t)))) (zS1, m, yy) := by
  refine zeKn (c := 0) rfl rfl rfl ?_
  refine zeP rfl rfl ?_
  refine zeKn (c := 0) rfl rfl rfl ?_
  refine zeP rfl rfl ?_
  refine zeKn (c := 0) rfl rfl rfl ?_
  refine zeP rfl rfl ?_
  simp only [x_mostHeld, cond_true, cond_false]
  exact xw_mostHeld (b := b) (t := t) (m := m) (by omega) hb ht hD hD.1.2 ((mv m (b + 10 + 7 * t) 2)) ((Int32.ofNat 0)) ((Int32.ofNat 0)) (0)   (by omega) 
theorem xc_mostHeld {σ : Nat → Nat × (Nat → Int32)} {yy : (Nat → Nat → Int64) × Bool × Nat × Nat} {m : Nat → Nat → Int32} {b : Nat} {t : Nat} (hb : BB b) (ht : t < 4) (hD : DT m b t) : zF σ 3 1209 [.ref (b + 10 + 7 * t)] (zS1, m, yy) (.inl (some (.int (x_mostHeld m b t)))) (zS1, m, yy) := by
  intro d hd
  obtain ⟨d, rfl⟩ : ∃ k, d = k + 1 := ⟨d - 1, by omega⟩
  exact xp_mostHeld hd hb ht hD
noncomputable def xl_partEnd (m : Nat → Nat → Int32) (b : Nat) (t : Nat) (p : Nat) : Nat → Int32 → Nat → Int32
  | 0, h, k => (Int32.ofNat (mv m (b + 10 + 7 * t) 2))
  | n + 1, h, k => (bif zc1 .ne (x_heldBehind m b t k h) then (xl_partEnd m b t p n ((x_heldBehind m b t k h)) ((k + 1))) else (Int32.ofNat (k + 1)))
theorem xw_partEnd {σ : Nat → Nat × (Nat → Int32)} {yy : (Nat → Nat → Int64) × Bool × Nat × Nat} {m : Nat → Nat → Int32} {b : Nat} {t : Nat} {p : Nat} {d : Nat} (hd : 3 ≤ d + 1) (hb : BB b) (ht : t < 4) (hD : DT m b t) (h24 : mv m (b + 10 + 7 * t) 2 ≤ 24) : ∀ (n : Nat) (h : Int32) (k : Nat), k + n = mv m (b + 10 + 7 * t) 2 → zEv σ (d + 1) 1210 16 [some (.ref (b + 10 + 7 * t)), some (.int (Int32.ofNat p)), some (.int h), some (.int (Int32.ofNat k))] [] (zS1, m, yy) (.inl (some (.int (xl_partEnd m b t p n h k)))) (zS1, m, yy) := by
  intro n
  induction n with
  | zero =>
    intro h k hk
    refine zeP rfl rfl ?_
    refine zeP rfl rfl ?_
    refine zeGI rfl rfl (shS hb (by omega)) rfl rfl ?_
    rw [hD.1.1]
    refine zeT2 rfl rfl (zcge (by omega) (by omega) (by omega)) ?_
    refine zeP rfl rfl ?_
    refine zeGI rfl rfl (shS hb (by omega)) rfl rfl ?_
    rw [hD.1.1]
    exact zeRe rfl rfl rfl rfl (by rfl) (by rfl)
  | succ n ih =>
    intro h k hk
    refine zeP rfl rfl ?_
    refine zeP rfl rfl ?_
    refine zeGI rfl rfl (shS hb (by omega)) rfl rfl ?_
    rw [hD.1.1]
    refine zeF2 rfl rfl (zcge_f (by omega) (by omega) (by omega)) ?_
    refine zeP rfl rfl ?_
    refine zeP rfl rfl ?_
    refine zeP rfl rfl ?_
    refine zeCV rfl rfl rfl rfl (shS hb (by omega)) rfl (xc_heldBehind (m := m) (b := b) (t := t) (p := k) (h := h) hb ht (by omega) hD) (by omega) ?_
    dsimp only [Option.toList, List.cons_append, List.nil_append]
    refine zeP rfl rfl ?_
    refine zeP rfl rfl ?_
    refine zeB1 rfl rfl (fun h1 => ?_) (fun h1 => ?_)
    · refine zeInc rfl rfl ?_
      refine zeP rfl rfl ?_
      simp only [xl_partEnd, h1, cond_true, cond_false]
      exact ih ((x_heldBehind m b t k h)) ((k + 1))   (by omega) 
    · refine zeP rfl rfl ?_
      refine zeKn (c := 1) rfl rfl rfl ?_
      refine zeAdd rfl ?_
      exact zeRe rfl rfl rfl rfl (by simp only [xl_partEnd, h1, cond_true, cond_false] <;> rfl) (by simp only [xl_partEnd, h1, cond_true, cond_false] <;> rfl)
noncomputable def x_partEnd (m : Nat → Nat → Int32) (b : Nat) (t : Nat) (p : Nat) : Int32 := (bif zc1 .eq (x_kindAt m b t p) then (xl_partEnd m b t p ((mv m (b + 10 + 7 * t) 2 - p)) ((Int32.ofNat 0)) p) else (Int32.ofNat (p + 1)))
theorem xp_partEnd {σ : Nat → Nat × (Nat → Int32)} {yy : (Nat → Nat → Int64) × Bool × Nat × Nat} {m : Nat → Nat → Int32} {b : Nat} {t : Nat} {p : Nat} {d : Nat} (hd : 3 ≤ d + 1) (hb : BB b) (ht : t < 4) (hD : DT m b t) (hpd : p < mv m (b + 10 + 7 * t) 2) : zEv σ (d + 1) 1210 0 [some (.ref (b + 10 + 7 * t)), some (.int (Int32.ofNat p)), none, none] [] (zS1, m, yy) (.inl (some (.int (x_partEnd m b t p)))) (zS1, m, yy) := by
  refine zeP rfl rfl ?_
  refine zeP rfl rfl ?_
  refine zeCV rfl rfl rfl rfl (shS hb (by omega)) rfl (xc_kindAt (m := m) (b := b) (t := t) (p := p) hb ht (by have := hD.1.2; omega)) (by omega) ?_
  dsimp only [Option.toList, List.cons_append, List.nil_append]
  refine zeB1 rfl rfl (fun h1 => ?_) (fun h1 => ?_)
  · refine zeKn (c := 0) rfl rfl rfl ?_
    refine zeP rfl rfl ?_
    refine zeP rfl rfl ?_
    refine zeP rfl rfl ?_
    simp only [x_partEnd, h1, cond_true, cond_false]
    exact xw_partEnd (b := b) (t := t) (p := p) (m := m) (by omega) hb ht hD hD.1.2 ((mv m (b + 10 + 7 * t) 2 - p)) ((Int32.ofNat 0)) (p)   (by omega) 
  · refine zeP rfl rfl ?_
    refine zeKn (c := 1) rfl rfl rfl ?_
    refine zeAdd rfl ?_
    exact zeRe rfl rfl rfl rfl (by simp only [x_partEnd, h1, cond_true, cond_false] <;> rfl) (by simp only [x_partEnd, h1, cond_true, cond_false] <;> rfl)
theorem xc_partEnd {σ : Nat → Nat × (Nat → Int32)} {yy : (Nat → Nat → Int64) × Bool × Nat × Nat} {m : Nat → Nat → Int32} {b : Nat} {t : Nat} {p : Nat} (hb : BB b) (ht : t < 4) (hD : DT m b t) (hpd : p < mv m (b + 10 + 7 * t) 2) : zF σ 3 1210 [.ref (b + 10 + 7 * t), .int (Int32.ofNat p)] (zS1, m, yy) (.inl (some (.int (x_partEnd m b t p)))) (zS1, m, yy) := by
  intro d hd
  obtain ⟨d, rfl⟩ : ∃ k, d = k + 1 := ⟨d - 1, by omega⟩
  exact xp_partEnd hd hb ht hD hpd
/-- where a part ends -/
noncomputable def pen (m : Nat → Nat → Int32) (b t p : Nat) : Nat := (x_partEnd m b t p).toNatClampNeg
theorem penL {m : Nat → Nat → Int32} {b t p : Nat} : ∀ (n : Nat) (h : Int32) (k : Nat), k + n = mv m (b + 10 + 7 * t) 2 → p < mv m (b + 10 + 7 * t) 2 → p ≤ k → ∃ v, p < v ∧ v ≤ mv m (b + 10 + 7 * t) 2 ∧ xl_partEnd m b t p n h k = Int32.ofNat v := by
  intro n
  induction n with
  | zero => intro h k hk hp hpk; exact ⟨_, hp, Nat.le_refl _, rfl⟩
  | succ n ih =>
    intro h k hk hp hpk
    unfold xl_partEnd
    refine cnd4 (fun X : Int32 => ∃ v, p < v ∧ v ≤ mv m (b + 10 + 7 * t) 2 ∧ X = Int32.ofNat v) (fun _ => ih _ _ (by omega) hp (by omega)) (fun _ => ⟨k + 1, by omega, by omega, rfl⟩)
theorem pe_n {m : Nat → Nat → Int32} {b t p : Nat} (hD : DT m b t) (hp : p < mv m (b + 10 + 7 * t) 2) : x_partEnd m b t p = Int32.ofNat (pen m b t p) ∧ p < pen m b t p ∧ pen m b t p ≤ mv m (b + 10 + 7 * t) 2 := by
  have h24 := hD.1.2
  have key : ∃ v, p < v ∧ v ≤ mv m (b + 10 + 7 * t) 2 ∧ x_partEnd m b t p = Int32.ofNat v := by
    unfold x_partEnd
    refine cnd4 (fun X : Int32 => ∃ v, p < v ∧ v ≤ mv m (b + 10 + 7 * t) 2 ∧ X = Int32.ofNat v) (fun _ => penL _ _ _ (by omega) hp (Nat.le_refl _)) (fun _ => ⟨p + 1, by omega, by omega, rfl⟩)
  obtain ⟨v, h1, h2, h3⟩ := key
  unfold pen
  rw [h3, nv_on (by omega)]
  exact ⟨rfl, h1, h2⟩
noncomputable def xl_partCount (m : Nat → Nat → Int32) (b : Nat) (t : Nat) : Nat → Nat → Nat → Int32
  | 0, k, p => (Int32.ofNat k)
  | n + 1, k, p => (bif zc2 .ge (Int32.ofNat p) (Int32.ofNat (mv m (b + 10 + 7 * t) 2)) then (Int32.ofNat k) else (xl_partCount m b t n ((k + 1)) ((pen m b t p))))
theorem xw_partCount {σ : Nat → Nat × (Nat → Int32)} {yy : (Nat → Nat → Int64) × Bool × Nat × Nat} {m : Nat → Nat → Int32} {b : Nat} {t : Nat} {d : Nat} (hd : 4 ≤ d + 1) (hb : BB b) (ht : t < 4) (hD : DT m b t) (h24 : mv m (b + 10 + 7 * t) 2 ≤ 24) : ∀ (n : Nat) (k : Nat) (p : Nat), k + n = 24 → p ≤ mv m (b + 10 + 7 * t) 2 → zEv σ (d + 1) 1211 4 [some (.ref (b + 10 + 7 * t)), some (.int (Int32.ofNat k)), some (.int (Int32.ofNat p))] [] (zS1, m, yy) (.inl (some (.int (xl_partCount m b t n k p)))) (zS1, m, yy) := by
  intro n
  induction n with
  | zero =>
    intro k p hk hp
    refine zeP rfl rfl ?_
    refine zeKn (c := 24) rfl rfl rfl ?_
    refine zeT2 rfl rfl (zcge (by omega) (by omega) (by omega)) ?_
    refine zeP rfl rfl ?_
    exact zeRe rfl rfl rfl rfl (by rfl) (by rfl)
  | succ n ih =>
    intro k p hk hp
    refine zeP rfl rfl ?_
    refine zeKn (c := 24) rfl rfl rfl ?_
    refine zeF2 rfl rfl (zcge_f (by omega) (by omega) (by omega)) ?_
    refine zeP rfl rfl ?_
    refine zeP rfl rfl ?_
    refine zeGI rfl rfl (shS hb (by omega)) rfl rfl ?_
    rw [hD.1.1]
    refine zeB2 rfl rfl (fun h1 => ?_) (fun h1 => ?_)
    · refine zeP rfl rfl ?_
      exact zeRe rfl rfl rfl rfl (by simp only [xl_partCount, h1, cond_true, cond_false] <;> rfl) (by simp only [xl_partCount, h1, cond_true, cond_false] <;> rfl)
    · refine zeP rfl rfl ?_
      refine zeP rfl rfl ?_
      refine zeCV rfl rfl rfl rfl (shS hb (by omega)) rfl (xc_partEnd (m := m) (b := b) (t := t) (p := p) hb ht hD (zge_lt (by omega) (by omega) (by assumption))) (by omega) ?_
      dsimp only [Option.toList, List.cons_append, List.nil_append]
      rw [(pe_n hD (zge_lt (by omega) (by omega) (by assumption))).1]
      refine zeP rfl rfl ?_
      refine zeInc rfl rfl ?_
      refine zeP rfl rfl ?_
      simp only [xl_partCount, h1, cond_true, cond_false]
      exact ih ((k + 1)) ((pen m b t p))   (by omega) (pe_n hD (zge_lt (by omega) (by omega) (by assumption))).2.2
noncomputable def x_partCount (m : Nat → Nat → Int32) (b : Nat) (t : Nat) : Int32 := (xl_partCount m b t 24 0 0)
theorem xp_partCount {σ : Nat → Nat × (Nat → Int32)} {yy : (Nat → Nat → Int64) × Bool × Nat × Nat} {m : Nat → Nat → Int32} {b : Nat} {t : Nat} {d : Nat} (hd : 4 ≤ d + 1) (hb : BB b) (ht : t < 4) (hD : DT m b t) : zEv σ (d + 1) 1211 0 [some (.ref (b + 10 + 7 * t)), none, none] [] (zS1, m, yy) (.inl (some (.int (x_partCount m b t)))) (zS1, m, yy) := by
  refine zeKn (c := 0) rfl rfl rfl ?_
  refine zeP rfl rfl ?_
  refine zeKn (c := 0) rfl rfl rfl ?_
  refine zeP rfl rfl ?_
  simp only [x_partCount, cond_true, cond_false]
  exact xw_partCount (b := b) (t := t) (m := m) (by omega) hb ht hD hD.1.2 24 (0) (0)   (by omega) (Nat.zero_le _)
theorem xc_partCount {σ : Nat → Nat × (Nat → Int32)} {yy : (Nat → Nat → Int64) × Bool × Nat × Nat} {m : Nat → Nat → Int32} {b : Nat} {t : Nat} (hb : BB b) (ht : t < 4) (hD : DT m b t) : zF σ 4 1211 [.ref (b + 10 + 7 * t)] (zS1, m, yy) (.inl (some (.int (x_partCount m b t)))) (zS1, m, yy) := by
  intro d hd
  obtain ⟨d, rfl⟩ : ∃ k, d = k + 1 := ⟨d - 1, by omega⟩
  exact xp_partCount hd hb ht hD
noncomputable def xl_clear (b : Nat) (t : Nat) : Nat → Nat → (Nat → Nat → Int32) → (Nat → Nat → Int32)
  | 0, k, m => (x_close m b t)
  | n + 1, k, m => (xl_clear b t n ((k + 1)) ((zm2 m ((b + 13 + 7 * t)) k (Int32.ofNat 0))))
theorem xw_clear {σ : Nat → Nat × (Nat → Int32)} {yy : (Nat → Nat → Int64) × Bool × Nat × Nat} {b : Nat} {t : Nat} {d : Nat} (hd : 2 ≤ d + 1) (hb : BB b) (ht : t < 4) : ∀ (n : Nat) (k : Nat) (m : Nat → Nat → Int32), k + n = 5 → zEv σ (d + 1) 1202 32 [some (.ref (b + 10 + 7 * t)), some (.int (Int32.ofNat k))] [] (zS1, m, yy) (.inl none) (zS1, ((xl_clear b t n k m)), yy) := by
  intro n
  induction n with
  | zero =>
    intro k m hk
    refine zeP rfl rfl ?_
    refine zeKn (c := 5) rfl rfl rfl ?_
    refine zeT2 rfl rfl (zcge (by omega) (by omega) (by omega)) ?_
    refine zeP rfl rfl ?_
    refine zeGR rfl rfl (shS hb (by omega)) rfl rfl ?_
    refine zeCV rfl rfl rfl rfl (shG hb (by omega)) rfl (xc_close (m := m) (b := b) (t := t) hb ht) (by omega) ?_
    dsimp only [Option.toList, List.cons_append, List.nil_append]
    exact zeRe rfl rfl rfl rfl (by rfl) (by rfl)
  | succ n ih =>
    intro k m hk
    refine zeP rfl rfl ?_
    refine zeKn (c := 5) rfl rfl rfl ?_
    refine zeF2 rfl rfl (zcge_f (by omega) (by omega) (by omega)) ?_
    refine zeP rfl rfl ?_
    refine zeGR rfl rfl (shS hb (by omega)) rfl rfl ?_
    refine zeP rfl rfl ?_
    refine zeKn (c := 0) rfl rfl rfl ?_
    refine zeAS (k := k) rfl (shF hb (by omega)) rfl (by omega) ?_
    refine zeInc rfl rfl ?_
    refine zeP rfl rfl ?_
    simp only [xl_clear, cond_true, cond_false]
    exact ih ((k + 1))  ((zm2 m ((b + 13 + 7 * t)) k (Int32.ofNat 0))) (by omega) 
noncomputable def x_clear (m : Nat → Nat → Int32) (b : Nat) (t : Nat) : (Nat → Nat → Int32) := (xl_clear b t 5 0 ((zm2 ((zm2 ((zm2 ((zm2 ((zm2 ((zm2 m ((b + 10 + 7 * t)) 2 (Int32.ofNat 0))) ((b + 10 + 7 * t)) 3 (Int32.ofNat 0))) ((b + 10 + 7 * t)) 4 (Int32.ofNat 0))) ((b + 10 + 7 * t)) 5 (Int32.ofNat 0))) ((b + 10 + 7 * t)) 6 (Int32.ofNat 0))) ((b + 10 + 7 * t)) 7 (Int32.ofNat 0))))
theorem xp_clear {σ : Nat → Nat × (Nat → Int32)} {yy : (Nat → Nat → Int64) × Bool × Nat × Nat} {m : Nat → Nat → Int32} {b : Nat} {t : Nat} {d : Nat} (hd : 2 ≤ d + 1) (hb : BB b) (ht : t < 4) : zEv σ (d + 1) 1202 0 [some (.ref (b + 10 + 7 * t)), none] [] (zS1, m, yy) (.inl none) (zS1, ((x_clear m b t)), yy) := by
  refine zeP rfl rfl ?_
  refine zeKn (c := 0) rfl rfl rfl ?_
  refine zePI rfl rfl (shS hb (by omega)) rfl ?_
  refine zeP rfl rfl ?_
  refine zeKn (c := 0) rfl rfl rfl ?_
  refine zePI rfl rfl (shS hb (by omega)) rfl ?_
  refine zeP rfl rfl ?_
  refine zeKn (c := 0) rfl rfl rfl ?_
  refine zePI rfl rfl (shS hb (by omega)) rfl ?_
  refine zeP rfl rfl ?_
  refine zeKn (c := 0) rfl rfl rfl ?_
  refine zePI rfl rfl (shS hb (by omega)) rfl ?_
  refine zeP rfl rfl ?_
  refine zeKn (c := 0) rfl rfl rfl ?_
  refine zePI rfl rfl (shS hb (by omega)) rfl ?_
  refine zeP rfl rfl ?_
  refine zeKn (c := 0) rfl rfl rfl ?_
  refine zePI rfl rfl (shS hb (by omega)) rfl ?_
  refine zeKn (c := 0) rfl rfl rfl ?_
  refine zeP rfl rfl ?_
  simp only [x_clear, cond_true, cond_false]
  exact xw_clear (b := b) (t := t) (by omega) hb ht 5 (0)  ((zm2 ((zm2 ((zm2 ((zm2 ((zm2 ((zm2 m ((b + 10 + 7 * t)) 2 (Int32.ofNat 0))) ((b + 10 + 7 * t)) 3 (Int32.ofNat 0))) ((b + 10 + 7 * t)) 4 (Int32.ofNat 0))) ((b + 10 + 7 * t)) 5 (Int32.ofNat 0))) ((b + 10 + 7 * t)) 6 (Int32.ofNat 0))) ((b + 10 + 7 * t)) 7 (Int32.ofNat 0))) (by omega) 
theorem xc_clear {σ : Nat → Nat × (Nat → Int32)} {yy : (Nat → Nat → Int64) × Bool × Nat × Nat} {m : Nat → Nat → Int32} {b : Nat} {t : Nat} (hb : BB b) (ht : t < 4) : zF σ 2 1202 [.ref (b + 10 + 7 * t)] (zS1, m, yy) (.inl none) (zS1, ((x_clear m b t)), yy) := by
  intro d hd
  obtain ⟨d, rfl⟩ : ∃ k, d = k + 1 := ⟨d - 1, by omega⟩
  exact xp_clear hd hb ht
noncomputable def x_addDeed (m : Nat → Nat → Int32) (b : Nat) (t : Nat) (x : Int32) (y : Int32) : (Nat → Nat → Int32) := (bif zc2 .ge (Int32.ofNat (mv m (b + 10 + 7 * t) 2)) (Int32.ofNat 24) then m else (zm2 ((zm2 ((zm2 m ((b + 11 + 7 * t)) ((mv m (b + 10 + 7 * t) 2)) x)) ((b + 12 + 7 * t)) ((mv m (b + 10 + 7 * t) 2)) y)) ((b + 10 + 7 * t)) 2 (Int32.ofNat ((mv m (b + 10 + 7 * t) 2) + 1))))
theorem xp_addDeed {σ : Nat → Nat × (Nat → Int32)} {yy : (Nat → Nat → Int64) × Bool × Nat × Nat} {m : Nat → Nat → Int32} {b : Nat} {t : Nat} {x : Int32} {y : Int32} {d : Nat} (hd : 1 ≤ d + 1) (hb : BB b) (ht : t < 4) (h2 : m (b + 10 + 7 * t) 2 = Int32.ofNat (mv m (b + 10 + 7 * t) 2)) (h24 : mv m (b + 10 + 7 * t) 2 ≤ 24) : zEv σ (d + 1) 1203 0 [some (.ref (b + 10 + 7 * t)), some (.int x), some (.int y)] [] (zS1, m, yy) (.inl none) (zS1, ((x_addDeed m b t x y)), yy) := by
  refine zeP rfl rfl ?_
  refine zeGI rfl rfl (shS hb (by omega)) rfl rfl ?_
  rw [h2]
  refine zeKn (c := 24) rfl rfl rfl ?_
  refine zeB2 rfl rfl (fun h1 => ?_) (fun h1 => ?_)
  · exact zeRe rfl rfl rfl rfl (by simp only [x_addDeed, h1, cond_true, cond_false] <;> rfl) (by simp only [x_addDeed, h1, cond_true, cond_false] <;> rfl)
  · refine zeP rfl rfl ?_
    refine zeGR rfl rfl (shS hb (by omega)) rfl rfl ?_
    refine zeP rfl rfl ?_
    refine zeGI rfl rfl (shS hb (by omega)) rfl rfl ?_
    rw [h2]
    refine zeP rfl rfl ?_
    refine zeAS (k := (mv m (b + 10 + 7 * t) 2)) rfl (shK hb (by omega)) rfl (zge_lt (by omega) (by omega) (by assumption)) ?_
    refine zeP rfl rfl ?_
    refine zeGR rfl rfl (shS hb (by omega)) rfl rfl ?_
    refine zeP rfl rfl ?_
    refine zeGI rfl rfl (shS hb (by omega)) rfl rfl ?_
    rw [(show (((zm2 m ((b + 11 + 7 * t)) ((mv m (b + 10 + 7 * t) 2)) x)) ((b + 10 + 7 * t)) 2) = Int32.ofNat (mv m (b + 10 + 7 * t) 2) from (by simp (disch := omega) only [zx_ne]; exact h2))]
    refine zeP rfl rfl ?_
    refine zeAS (k := (mv m (b + 10 + 7 * t) 2)) rfl (shN hb (by omega)) rfl (zge_lt (by omega) (by omega) (by assumption)) ?_
    refine zeP rfl rfl ?_
    refine zeP rfl rfl ?_
    refine zeGI rfl rfl (shS hb (by omega)) rfl rfl ?_
    rw [(show (((zm2 ((zm2 m ((b + 11 + 7 * t)) ((mv m (b + 10 + 7 * t) 2)) x)) ((b + 12 + 7 * t)) ((mv m (b + 10 + 7 * t) 2)) y)) ((b + 10 + 7 * t)) 2) = Int32.ofNat (mv m (b + 10 + 7 * t) 2) from (by simp (disch := omega) only [zx_ne]; exact h2))]
    refine zeKn (c := 1) rfl rfl rfl ?_
    refine zeAdd rfl ?_
    refine zePI rfl rfl (shS hb (by omega)) rfl ?_
    exact zeRe rfl rfl rfl rfl (by simp only [x_addDeed, h1, cond_true, cond_false] <;> rfl) (by simp only [x_addDeed, h1, cond_true, cond_false] <;> rfl)
theorem xc_addDeed {σ : Nat → Nat × (Nat → Int32)} {yy : (Nat → Nat → Int64) × Bool × Nat × Nat} {m : Nat → Nat → Int32} {b : Nat} {t : Nat} {x : Int32} {y : Int32} (hb : BB b) (ht : t < 4) (h2 : m (b + 10 + 7 * t) 2 = Int32.ofNat (mv m (b + 10 + 7 * t) 2)) (h24 : mv m (b + 10 + 7 * t) 2 ≤ 24) : zF σ 1 1203 [.ref (b + 10 + 7 * t), .int x, .int y] (zS1, m, yy) (.inl none) (zS1, ((x_addDeed m b t x y)), yy) := by
  intro d hd
  obtain ⟨d, rfl⟩ : ∃ k, d = k + 1 := ⟨d - 1, by omega⟩
  exact xp_addDeed hd hb ht h2 h24
noncomputable def xl_wordOther (m : Nat → Nat → Int32) (b : Nat) (l : Int32) (w : Int32) : Nat → Nat → Int32
  | 0, k => (Int32.ofNat 0)
  | n + 1, k => (bif zc2 .eq (Int32.ofNat k) l then (xl_wordOther m b l w n ((k + 1))) else (bif zc2 .ne (m ((b + 5 + k)) 0) w then (xl_wordOther m b l w n ((k + 1))) else (Int32.ofNat 1)))
theorem xw_wordOther {σ : Nat → Nat × (Nat → Int32)} {yy : (Nat → Nat → Int64) × Bool × Nat × Nat} {m : Nat → Nat → Int32} {b : Nat} {l : Int32} {w : Int32} {d : Nat} (hd : 2 ≤ d + 1) (hb : BB b) : ∀ (n : Nat) (k : Nat), k + n = 4 → zEv σ (d + 1) 631 2 [some (.ref b), some (.int l), some (.int w), some (.int (Int32.ofNat k))] [] (zS1, m, yy) (.inl (some (.int (xl_wordOther m b l w n k)))) (zS1, m, yy) := by
  intro n
  induction n with
  | zero =>
    intro k hk
    refine zeP rfl rfl ?_
    refine zeKn (c := 4) rfl rfl rfl ?_
    refine zeT2 rfl rfl (zcge (by omega) (by omega) (by omega)) ?_
    refine zeKn (c := 0) rfl rfl rfl ?_
    exact zeRe rfl rfl rfl rfl (by rfl) (by rfl)
  | succ n ih =>
    intro k hk
    refine zeP rfl rfl ?_
    refine zeKn (c := 4) rfl rfl rfl ?_
    refine zeF2 rfl rfl (zcge_f (by omega) (by omega) (by omega)) ?_
    refine zeP rfl rfl ?_
    refine zeP rfl rfl ?_
    refine zeB2 rfl rfl (fun h1 => ?_) (fun h1 => ?_)
    · refine zeInc rfl rfl ?_
      refine zeP rfl rfl ?_
      simp only [xl_wordOther, h1, cond_true, cond_false]
      exact ih ((k + 1))   (by omega) 
    · refine zeP rfl rfl ?_
      refine zeP rfl rfl ?_
      refine zeCV rfl rfl rfl rfl (shM hb) rfl (xc_lockAt (m := m) (b := b) (l := k) hb (by omega)) (by omega) ?_
      dsimp only [Option.toList, List.cons_append, List.nil_append]
      refine zeGI rfl rfl (shL hb (by omega)) rfl rfl ?_
      refine zeP rfl rfl ?_
      refine zeB2 rfl rfl (fun h2 => ?_) (fun h2 => ?_)
      · refine zeInc rfl rfl ?_
        refine zeP rfl rfl ?_
        simp only [xl_wordOther, h1, h2, cond_true, cond_false]
        exact ih ((k + 1))   (by omega) 
      · refine zeKn (c := 1) rfl rfl rfl ?_
        exact zeRe rfl rfl rfl rfl (by simp only [xl_wordOther, h1, h2, cond_true, cond_false] <;> rfl) (by simp only [xl_wordOther, h1, h2, cond_true, cond_false] <;> rfl)
noncomputable def x_isWordOfOther (m : Nat → Nat → Int32) (b : Nat) (l : Int32) (w : Int32) : Int32 := (xl_wordOther m b l w 4 0)
theorem xp_isWordOfOther {σ : Nat → Nat × (Nat → Int32)} {yy : (Nat → Nat → Int64) × Bool × Nat × Nat} {m : Nat → Nat → Int32} {b : Nat} {l : Int32} {w : Int32} {d : Nat} (hd : 2 ≤ d + 1) (hb : BB b) : zEv σ (d + 1) 631 0 [some (.ref b), some (.int l), some (.int w), none] [] (zS1, m, yy) (.inl (some (.int (x_isWordOfOther m b l w)))) (zS1, m, yy) := by
  refine zeKn (c := 0) rfl rfl rfl ?_
  refine zeP rfl rfl ?_
  simp only [x_isWordOfOther, cond_true, cond_false]
  exact xw_wordOther (b := b) (l := l) (w := w) (m := m) (by omega) hb 4 (0)   (by omega) 
theorem xc_isWordOfOther {σ : Nat → Nat × (Nat → Int32)} {yy : (Nat → Nat → Int64) × Bool × Nat × Nat} {m : Nat → Nat → Int32} {b : Nat} {l : Int32} {w : Int32} (hb : BB b) : zF σ 2 631 [.ref b, .int l, .int w] (zS1, m, yy) (.inl (some (.int (x_isWordOfOther m b l w)))) (zS1, m, yy) := by
  intro d hd
  obtain ⟨d, rfl⟩ : ∃ k, d = k + 1 := ⟨d - 1, by omega⟩
  exact xp_isWordOfOther hd hb
end
section
/-- floorMod by 60 -/
noncomputable def zfN (x : Int32) : Nat := (zfm x (Int32.ofNat 60)).toNatClampNeg
theorem zrem60 (x : Int32) : (x - x / Int32.ofNat 60 * Int32.ofNat 60).toInt = x.toInt.tmod 60 := by
  have h1 : (x / Int32.ofNat 60).toInt = x.toInt.tdiv 60 := by
    rw [Int32.toInt_div_of_ne_right _ _ (by decide)]
    rfl
  have hx := x.le_toInt
  have hx2 := x.toInt_lt
  have h60 : (Int32.ofNat 60).toInt = 60 := by decide
  rw [Int32.toInt_sub, Int32.toInt_mul, h1, h60]
  have e : x.toInt.tmod 60 = x.toInt - 60 * x.toInt.tdiv 60 := Int.tmod_def _ _
  have b2 := Int.tmod_lt_of_pos x.toInt (show (0 : Int) < 60 by omega)
  have b3 := Int.lt_tmod_of_pos x.toInt (show (0 : Int) < 60 by omega)
  have b4 : 0 ≤ x.toInt → 0 ≤ x.toInt.tmod 60 := fun q => Int.tmod_nonneg 60 q
  have b5 : x.toInt ≤ 0 → x.toInt.tmod 60 ≤ 0 := fun q => by
    have h := Int.tmod_nonneg 60 (show 0 ≤ -x.toInt by omega)
    rw [Int.neg_tmod] at h
    omega
  generalize x.toInt.tmod 60 = R at *
  generalize x.toInt.tdiv 60 = Q at *
  generalize x.toInt = X at *
  have c1 : Int.bmod (Q * 60) (2 ^ 32) = Q * 60 := Int.bmod_eq_of_le (by omega) (by omega)
  rw [c1]
  have c2 : Int.bmod (X - Q * 60) (2 ^ 32) = X - Q * 60 := Int.bmod_eq_of_le (by omega) (by omega)
  rw [c2]
  omega
theorem zfm60 (x : Int32) : zfm x (Int32.ofNat 60) = Int32.ofNat (zfN x) ∧ zfN x < 60 := by
  have hr := zrem60 x
  have hs : (0 ≤ x ^^^ Int32.ofNat 60) ↔ 0 ≤ x := by
    rw [Int32.le_iff_toInt_le, Int32.le_iff_toInt_le, Int32.toInt_zero]
    have e1 : (x ^^^ Int32.ofNat 60).toInt = (x.toBitVec ^^^ (Int32.ofNat 60).toBitVec).toInt := rfl
    have e2 : x.toInt = x.toBitVec.toInt := rfl
    have m1 := BitVec.msb_eq_toInt (x := x.toBitVec ^^^ (Int32.ofNat 60).toBitVec)
    have m2 := BitVec.msb_eq_toInt (x := x.toBitVec)
    rw [BitVec.msb_xor, show (Int32.ofNat 60).toBitVec.msb = false by decide, Bool.xor_false, m2] at m1
    rw [e1, e2]
    have := decide_eq_decide.mp m1
    omega
  have key : ∃ n : Nat, n < 60 ∧ (zfm x (Int32.ofNat 60)).toInt = n := by
    unfold zfm
    by_cases hx : 0 ≤ x
    · rw [if_neg (fun q => q.1 (hs.mpr hx)), hr]
      rw [Int32.le_iff_toInt_le, Int32.toInt_zero] at hx
      have b2 := Int.tmod_lt_of_pos x.toInt (show (0 : Int) < 60 by omega)
      have b4 := Int.tmod_nonneg 60 hx
      exact ⟨(x.toInt.tmod 60).toNat, by omega, by omega⟩
    · have hx2 : x.toInt < 0 := by
        rw [Int32.le_iff_toInt_le, Int32.toInt_zero] at hx
        omega
      by_cases h0 : x - x / Int32.ofNat 60 * Int32.ofNat 60 = 0
      · rw [if_neg (fun q => q.2 h0), h0]
        exact ⟨0, by omega, rfl⟩
      · rw [if_pos ⟨fun q => hx (hs.mp q), h0⟩, Int32.toInt_add, hr, show (Int32.ofNat 60).toInt = 60 by decide]
        have hn : x.toInt.tmod 60 ≠ 0 := fun e => h0 (Int32.toInt_inj.mp (by rw [hr, e]; rfl))
        have b3 := Int.lt_tmod_of_pos x.toInt (show (0 : Int) < 60 by omega)
        have b5 := Int.tmod_nonneg 60 (show 0 ≤ -x.toInt by omega)
        rw [Int.neg_tmod] at b5
        have c1 : Int.bmod (x.toInt.tmod 60 + 60) (2 ^ 32) = x.toInt.tmod 60 + 60 := Int.bmod_eq_of_le (by omega) (by omega)
        rw [c1]
        exact ⟨(x.toInt.tmod 60 + 60).toNat, by omega, by omega⟩
  obtain ⟨n, h1, h2⟩ := key
  have e : zfm x (Int32.ofNat 60) = Int32.ofNat n := Int32.toInt_inj.mp (by rw [h2, zoN (by omega)])
  unfold zfN
  rw [e, nv_on (by omega)]
  exact ⟨rfl, h1⟩
theorem i4_of {x : Int32} {n : Nat} (hn0 : n < 2147483648) (h1 : zc1 .lt x = false) (h2 : zc2 .lt x (Int32.ofNat n) = true) : x = Int32.ofNat x.toNatClampNeg ∧ x.toNatClampNeg < n := by
  have hn : n < 2147483648 := hn0
  · have a := of_decide_eq_false h1
    have c := of_decide_eq_true h2
    rw [Int32.lt_iff_toInt_lt, Int32.toInt_zero] at a
    rw [Int32.lt_iff_toInt_lt, zoN hn] at c
    have h3 : x.toNatClampNeg = x.toInt.toNat := rfl
    refine ⟨?_, by omega⟩
    apply Int32.toInt_inj.mp
    rw [zoN (by omega), h3]
    omega
noncomputable def x_logCell (m : Nat → Nat → Int32) (b : Nat) (k : Int32) (x : Int32) : Int32 := (bif zc1 .lt k then (-1) else (bif zc2 .ge k (m ((b + 40)) 1) then (-1) else (bif zc1 .lt x then (-1) else (bif zc2 .lt x (Int32.ofNat 4) then (m ((b + 41)) ((((zfN ((((m ((b + 40)) 2) - (Int32.ofNat 1)) - k))) * 4) + (x.toNatClampNeg)))) else (-1)))))
theorem xp_logCell {σ : Nat → Nat × (Nat → Int32)} {yy : (Nat → Nat → Int64) × Bool × Nat × Nat} {m : Nat → Nat → Int32} {b : Nat} {k : Int32} {x : Int32} {d : Nat} (hd : 1 ≤ d + 1) (hb : BB b) : zEv σ (d + 1) 403 0 [some (.ref (b + 40)), some (.int k), some (.int x)] [] (zS1, m, yy) (.inl (some (.int (x_logCell m b k x)))) (zS1, m, yy) := by
  refine zeP rfl rfl ?_
  refine zeB1 rfl rfl (fun h1 => ?_) (fun h1 => ?_)
  · refine zeK (v := -1) rfl rfl rfl ?_
    exact zeRe rfl rfl rfl rfl (by simp only [x_logCell, h1, cond_true, cond_false] <;> rfl) (by simp only [x_logCell, h1, cond_true, cond_false] <;> rfl)
  · refine zeP rfl rfl ?_
    refine zeP rfl rfl ?_
    refine zeGI rfl rfl (shLG hb) rfl rfl ?_
    refine zeB2 rfl rfl (fun h2 => ?_) (fun h2 => ?_)
    · refine zeK (v := -1) rfl rfl rfl ?_
      exact zeRe rfl rfl rfl rfl (by simp only [x_logCell, h1, h2, cond_true, cond_false] <;> rfl) (by simp only [x_logCell, h1, h2, cond_true, cond_false] <;> rfl)
    · refine zeP rfl rfl ?_
      refine zeB1 rfl rfl (fun h3 => ?_) (fun h3 => ?_)
      · refine zeK (v := -1) rfl rfl rfl ?_
        exact zeRe rfl rfl rfl rfl (by simp only [x_logCell, h1, h2, h3, cond_true, cond_false] <;> rfl) (by simp only [x_logCell, h1, h2, h3, cond_true, cond_false] <;> rfl)
      · refine zeP rfl rfl ?_
        refine zeKn (c := 4) rfl rfl rfl ?_
        refine zeB2 rfl rfl (fun h4 => ?_) (fun h4 => ?_)
        · have cx : x = Int32.ofNat x.toNatClampNeg ∧ x.toNatClampNeg < 4 := (i4_of (by omega) (by assumption) (by assumption))
          refine zeP rfl rfl ?_
          refine zeGR rfl rfl (shLG hb) rfl rfl ?_
          refine zeP rfl rfl ?_
          refine zeGI rfl rfl (shLG hb) rfl rfl ?_
          refine zeKn (c := 1) rfl rfl rfl ?_
          refine zeP rfl rfl ?_
          refine zeP rfl rfl ?_
          refine zeP rfl rfl ?_
          refine zeKn (c := 60) rfl rfl rfl ?_
          refine zeM rfl rfl rfl rfl rfl rfl rfl ?_
          rw [(zfm60 _).1]
          refine zeKn (c := 4) rfl rfl rfl ?_
          refine zeMul rfl ?_
          refine zeKn (c := x.toNatClampNeg) rfl rfl cx.1 ?_
          refine zeAdd rfl ?_
          refine zeAL (k := (((zfN ((((m ((b + 40)) 2) - (Int32.ofNat 1)) - k))) * 4) + (x.toNatClampNeg))) rfl (bb1000 hb (by omega)) (shC hb) rfl (by have := (zfm60 (m (b + 40) 2 - Int32.ofNat 1 - k)).2; have := cx.2; omega) ?_
          exact zeRe rfl rfl rfl rfl (by simp only [x_logCell, h1, h2, h3, h4, cond_true, cond_false] <;> rfl) (by simp only [x_logCell, h1, h2, h3, h4, cond_true, cond_false] <;> rfl)
        · refine zeK (v := -1) rfl rfl rfl ?_
          exact zeRe rfl rfl rfl rfl (by simp only [x_logCell, h1, h2, h3, h4, cond_true, cond_false] <;> rfl) (by simp only [x_logCell, h1, h2, h3, h4, cond_true, cond_false] <;> rfl)
theorem xc_logCell {σ : Nat → Nat × (Nat → Int32)} {yy : (Nat → Nat → Int64) × Bool × Nat × Nat} {m : Nat → Nat → Int32} {b : Nat} {k : Int32} {x : Int32} (hb : BB b) : zF σ 1 403 [.ref (b + 40), .int k, .int x] (zS1, m, yy) (.inl (some (.int (x_logCell m b k x)))) (zS1, m, yy) := by
  intro d hd
  obtain ⟨d, rfl⟩ : ∃ k, d = k + 1 := ⟨d - 1, by omega⟩
  exact xp_logCell hd hb
end
section
noncomputable def x_lockCp (m : Nat → Nat → Int32) (b : Nat) (l : Nat) (c : Nat) : (Nat → Nat → Int32) := (zm2 ((zm2 ((zm2 ((zm2 m ((b + 5 + l)) 0 (m ((c + 5 + l)) 0))) ((b + 5 + l)) 1 (m ((c + 5 + l)) 1))) ((b + 5 + l)) 2 (m ((c + 5 + l)) 2))) ((b + 5 + l)) 3 (m ((c + 5 + l)) 3))
theorem xp_lockCp {σ : Nat → Nat × (Nat → Int32)} {yy : (Nat → Nat → Int64) × Bool × Nat × Nat} {m : Nat → Nat → Int32} {b : Nat} {l : Nat} {c : Nat} {d : Nat} (hd : 1 ≤ d + 1) (hb : BB b) (he : BB c) (hl : l < 4) (hbc : b + 42 ≤ c ∨ c + 42 ≤ b) : zEv σ (d + 1) 201 0 [some (.ref (b + 5 + l)), some (.ref (c + 5 + l))] [] (zS1, m, yy) (.inl none) (zS1, ((x_lockCp m b l c)), yy) := by
  refine zeP rfl rfl ?_
  refine zeP rfl rfl ?_
  refine zeGI rfl rfl (shL he (by omega)) rfl rfl ?_
  refine zePI rfl rfl (shL hb (by omega)) rfl ?_
  refine zeP rfl rfl ?_
  refine zeP rfl rfl ?_
  refine zeGI rfl rfl (shL he (by omega)) rfl rfl ?_
  rw [show (((zm2 m ((b + 5 + l)) 0 (m ((c + 5 + l)) 0))) ((c + 5 + l)) 1) = m ((c + 5 + l)) 1 from (by simp (disch := omega) only [zx_ne, zcpy_ne, zx_ne])]
  refine zePI rfl rfl (shL hb (by omega)) rfl ?_
  refine zeP rfl rfl ?_
  refine zeP rfl rfl ?_
  refine zeGI rfl rfl (shL he (by omega)) rfl rfl ?_
  rw [show (((zm2 ((zm2 m ((b + 5 + l)) 0 (m ((c + 5 + l)) 0))) ((b + 5 + l)) 1 (m ((c + 5 + l)) 1))) ((c + 5 + l)) 2) = m ((c + 5 + l)) 2 from (by simp (disch := omega) only [zx_ne, zcpy_ne, zx_ne])]
  refine zePI rfl rfl (shL hb (by omega)) rfl ?_
  refine zeP rfl rfl ?_
  refine zeP rfl rfl ?_
  refine zeGI rfl rfl (shL he (by omega)) rfl rfl ?_
  rw [show (((zm2 ((zm2 ((zm2 m ((b + 5 + l)) 0 (m ((c + 5 + l)) 0))) ((b + 5 + l)) 1 (m ((c + 5 + l)) 1))) ((b + 5 + l)) 2 (m ((c + 5 + l)) 2))) ((c + 5 + l)) 3) = m ((c + 5 + l)) 3 from (by simp (disch := omega) only [zx_ne, zcpy_ne, zx_ne])]
  refine zePI rfl rfl (shL hb (by omega)) rfl ?_
  exact zeRe rfl rfl rfl rfl (by rfl) (by rfl)
theorem xc_lockCp {σ : Nat → Nat × (Nat → Int32)} {yy : (Nat → Nat → Int64) × Bool × Nat × Nat} {m : Nat → Nat → Int32} {b : Nat} {l : Nat} {c : Nat} (hb : BB b) (he : BB c) (hl : l < 4) (hbc : b + 42 ≤ c ∨ c + 42 ≤ b) : zF σ 1 201 [.ref (b + 5 + l), .ref (c + 5 + l)] (zS1, m, yy) (.inl none) (zS1, ((x_lockCp m b l c)), yy) := by
  intro d hd
  obtain ⟨d, rfl⟩ : ∃ k, d = k + 1 := ⟨d - 1, by omega⟩
  exact xp_lockCp hd hb he hl hbc
noncomputable def x_guessCp (m : Nat → Nat → Int32) (b : Nat) (t : Nat) (c : Nat) : (Nat → Nat → Int32) := (zm2 ((zcpy ((zm2 ((zm2 ((zm2 ((zcpy ((zm2 ((zm2 ((zm2 ((zm2 m ((b + 14 + 7 * t)) 0 (m ((c + 14 + 7 * t)) 0))) ((b + 14 + 7 * t)) 1 (m ((c + 14 + 7 * t)) 1))) ((b + 14 + 7 * t)) 2 (m ((c + 14 + 7 * t)) 2))) ((b + 14 + 7 * t)) 3 (m ((c + 14 + 7 * t)) 3))) ((c + 15 + 7 * t)) ((b + 15 + 7 * t)) 0 0 4)) ((b + 14 + 7 * t)) 5 (m ((c + 14 + 7 * t)) 5))) ((b + 14 + 7 * t)) 6 (m ((c + 14 + 7 * t)) 6))) ((b + 14 + 7 * t)) 7 (m ((c + 14 + 7 * t)) 7))) ((c + 16 + 7 * t)) ((b + 16 + 7 * t)) 0 0 32)) ((b + 14 + 7 * t)) 9 (m ((c + 14 + 7 * t)) 9))
theorem xp_guessCp {σ : Nat → Nat × (Nat → Int32)} {yy : (Nat → Nat → Int64) × Bool × Nat × Nat} {m : Nat → Nat → Int32} {b : Nat} {t : Nat} {c : Nat} {d : Nat} (hd : 1 ≤ d + 1) (hb : BB b) (he : BB c) (ht : t < 4) (hbc : b + 42 ≤ c ∨ c + 42 ≤ b) (hon : m (c + 14 + 7 * t) 0 = 0 ∨ m (c + 14 + 7 * t) 0 = 1) : zEv σ (d + 1) 1 0 [some (.ref (b + 14 + 7 * t)), some (.ref (c + 14 + 7 * t))] [] (zS1, m, yy) (.inl none) (zS1, ((x_guessCp m b t c)), yy) := by
  refine zeP rfl rfl ?_
  refine zeP rfl rfl ?_
  refine zeGI rfl rfl (shG he (by omega)) rfl rfl ?_
  refine zePB rfl rfl (shG hb (by omega)) rfl hon ?_
  refine zeP rfl rfl ?_
  refine zeP rfl rfl ?_
  refine zeGI rfl rfl (shG he (by omega)) rfl rfl ?_
  rw [show (((zm2 m ((b + 14 + 7 * t)) 0 (m ((c + 14 + 7 * t)) 0))) ((c + 14 + 7 * t)) 1) = m ((c + 14 + 7 * t)) 1 from (by simp (disch := omega) only [zx_ne, zcpy_ne, zx_ne])]
  refine zePI rfl rfl (shG hb (by omega)) rfl ?_
  refine zeP rfl rfl ?_
  refine zeP rfl rfl ?_
  refine zeGI rfl rfl (shG he (by omega)) rfl rfl ?_
  rw [show (((zm2 ((zm2 m ((b + 14 + 7 * t)) 0 (m ((c + 14 + 7 * t)) 0))) ((b + 14 + 7 * t)) 1 (m ((c + 14 + 7 * t)) 1))) ((c + 14 + 7 * t)) 2) = m ((c + 14 + 7 * t)) 2 from (by simp (disch := omega) only [zx_ne, zcpy_ne, zx_ne])]
  refine zePI rfl rfl (shG hb (by omega)) rfl ?_
  refine zeP rfl rfl ?_
  refine zeP rfl rfl ?_
  refine zeGI rfl rfl (shG he (by omega)) rfl rfl ?_
  rw [show (((zm2 ((zm2 ((zm2 m ((b + 14 + 7 * t)) 0 (m ((c + 14 + 7 * t)) 0))) ((b + 14 + 7 * t)) 1 (m ((c + 14 + 7 * t)) 1))) ((b + 14 + 7 * t)) 2 (m ((c + 14 + 7 * t)) 2))) ((c + 14 + 7 * t)) 3) = m ((c + 14 + 7 * t)) 3 from (by simp (disch := omega) only [zx_ne, zcpy_ne, zx_ne])]
  refine zePI rfl rfl (shG hb (by omega)) rfl ?_
  refine zeP rfl rfl ?_
  refine zeGR rfl rfl (shG he (by omega)) rfl rfl ?_
  refine zeKn (c := 0) rfl rfl rfl ?_
  refine zeP rfl rfl ?_
  refine zeGR rfl rfl (shG hb (by omega)) rfl rfl ?_
  refine zeKn (c := 0) rfl rfl rfl ?_
  refine zeKn (c := 4) rfl rfl rfl ?_
  refine zeCPY rfl rfl (shO he (by omega)) (shO hb (by omega)) (by omega) (by omega) (by omega) (by omega) rfl ?_
  refine zeP rfl rfl ?_
  refine zeP rfl rfl ?_
  refine zeGI rfl rfl (shG he (by omega)) rfl rfl ?_
  rw [show (((zcpy ((zm2 ((zm2 ((zm2 ((zm2 m ((b + 14 + 7 * t)) 0 (m ((c + 14 + 7 * t)) 0))) ((b + 14 + 7 * t)) 1 (m ((c + 14 + 7 * t)) 1))) ((b + 14 + 7 * t)) 2 (m ((c + 14 + 7 * t)) 2))) ((b + 14 + 7 * t)) 3 (m ((c + 14 + 7 * t)) 3))) ((c + 15 + 7 * t)) ((b + 15 + 7 * t)) 0 0 4)) ((c + 14 + 7 * t)) 5) = m ((c + 14 + 7 * t)) 5 from (by simp (disch := omega) only [zx_ne, zcpy_ne, zx_ne])]
  refine zePI rfl rfl (shG hb (by omega)) rfl ?_
  refine zeP rfl rfl ?_
  refine zeP rfl rfl ?_
  refine zeGI rfl rfl (shG he (by omega)) rfl rfl ?_
  rw [show (((zm2 ((zcpy ((zm2 ((zm2 ((zm2 ((zm2 m ((b + 14 + 7 * t)) 0 (m ((c + 14 + 7 * t)) 0))) ((b + 14 + 7 * t)) 1 (m ((c + 14 + 7 * t)) 1))) ((b + 14 + 7 * t)) 2 (m ((c + 14 + 7 * t)) 2))) ((b + 14 + 7 * t)) 3 (m ((c + 14 + 7 * t)) 3))) ((c + 15 + 7 * t)) ((b + 15 + 7 * t)) 0 0 4)) ((b + 14 + 7 * t)) 5 (m ((c + 14 + 7 * t)) 5))) ((c + 14 + 7 * t)) 6) = m ((c + 14 + 7 * t)) 6 from (by simp (disch := omega) only [zx_ne, zcpy_ne, zx_ne])]
  refine zePI rfl rfl (shG hb (by omega)) rfl ?_
  refine zeP rfl rfl ?_
  refine zeP rfl rfl ?_
  refine zeGI rfl rfl (shG he (by omega)) rfl rfl ?_
  rw [show (((zm2 ((zm2 ((zcpy ((zm2 ((zm2 ((zm2 ((zm2 m ((b + 14 + 7 * t)) 0 (m ((c + 14 + 7 * t)) 0))) ((b + 14 + 7 * t)) 1 (m ((c + 14 + 7 * t)) 1))) ((b + 14 + 7 * t)) 2 (m ((c + 14 + 7 * t)) 2))) ((b + 14 + 7 * t)) 3 (m ((c + 14 + 7 * t)) 3))) ((c + 15 + 7 * t)) ((b + 15 + 7 * t)) 0 0 4)) ((b + 14 + 7 * t)) 5 (m ((c + 14 + 7 * t)) 5))) ((b + 14 + 7 * t)) 6 (m ((c + 14 + 7 * t)) 6))) ((c + 14 + 7 * t)) 7) = m ((c + 14 + 7 * t)) 7 from (by simp (disch := omega) only [zx_ne, zcpy_ne, zx_ne])]
  refine zePI rfl rfl (shG hb (by omega)) rfl ?_
  refine zeP rfl rfl ?_
  refine zeGR rfl rfl (shG he (by omega)) rfl rfl ?_
  refine zeKn (c := 0) rfl rfl rfl ?_
  refine zeP rfl rfl ?_
  refine zeGR rfl rfl (shG hb (by omega)) rfl rfl ?_
  refine zeKn (c := 0) rfl rfl rfl ?_
  refine zeKn (c := 32) rfl rfl rfl ?_
  refine zeCPY rfl rfl (shV he (by omega)) (shV hb (by omega)) (by omega) (by omega) (by omega) (by omega) rfl ?_
  refine zeP rfl rfl ?_
  refine zeP rfl rfl ?_
  refine zeGI rfl rfl (shG he (by omega)) rfl rfl ?_
  rw [show (((zcpy ((zm2 ((zm2 ((zm2 ((zcpy ((zm2 ((zm2 ((zm2 ((zm2 m ((b + 14 + 7 * t)) 0 (m ((c + 14 + 7 * t)) 0))) ((b + 14 + 7 * t)) 1 (m ((c + 14 + 7 * t)) 1))) ((b + 14 + 7 * t)) 2 (m ((c + 14 + 7 * t)) 2))) ((b + 14 + 7 * t)) 3 (m ((c + 14 + 7 * t)) 3))) ((c + 15 + 7 * t)) ((b + 15 + 7 * t)) 0 0 4)) ((b + 14 + 7 * t)) 5 (m ((c + 14 + 7 * t)) 5))) ((b + 14 + 7 * t)) 6 (m ((c + 14 + 7 * t)) 6))) ((b + 14 + 7 * t)) 7 (m ((c + 14 + 7 * t)) 7))) ((c + 16 + 7 * t)) ((b + 16 + 7 * t)) 0 0 32)) ((c + 14 + 7 * t)) 9) = m ((c + 14 + 7 * t)) 9 from (by simp (disch := omega) only [zx_ne, zcpy_ne, zx_ne])]
  refine zePI rfl rfl (shG hb (by omega)) rfl ?_
  exact zeRe rfl rfl rfl rfl (by rfl) (by rfl)
theorem xc_guessCp {σ : Nat → Nat × (Nat → Int32)} {yy : (Nat → Nat → Int64) × Bool × Nat × Nat} {m : Nat → Nat → Int32} {b : Nat} {t : Nat} {c : Nat} (hb : BB b) (he : BB c) (ht : t < 4) (hbc : b + 42 ≤ c ∨ c + 42 ≤ b) (hon : m (c + 14 + 7 * t) 0 = 0 ∨ m (c + 14 + 7 * t) 0 = 1) : zF σ 1 1 [.ref (b + 14 + 7 * t), .ref (c + 14 + 7 * t)] (zS1, m, yy) (.inl none) (zS1, ((x_guessCp m b t c)), yy) := by
  intro d hd
  obtain ⟨d, rfl⟩ : ∃ k, d = k + 1 := ⟨d - 1, by omega⟩
  exact xp_guessCp hd hb he ht hbc hon
theorem guessCp_ne {m : Nat → Nat → Int32} {b t c i l : Nat} (h : i < b + 14 + 7 * t ∨ b + 17 + 7 * t ≤ i) : x_guessCp m b t c i l = m i l := by
  unfold x_guessCp
  simp (disch := omega) only [zx_ne, zcpy_ne]
theorem lockCp_ne {m : Nat → Nat → Int32} {b t c i l : Nat} (h : i ≠ b + 5 + t) : x_lockCp m b t c i l = m i l := by
  unfold x_lockCp
  simp (disch := omega) only [zx_ne, zcpy_ne]
noncomputable def x_strandCp (m : Nat → Nat → Int32) (b : Nat) (t : Nat) (c : Nat) : (Nat → Nat → Int32) := (x_guessCp ((zcpy ((zm2 ((zm2 ((zm2 ((zm2 ((zm2 ((zm2 ((zcpy ((zcpy m ((c + 11 + 7 * t)) ((b + 11 + 7 * t)) 0 0 24)) ((c + 12 + 7 * t)) ((b + 12 + 7 * t)) 0 0 24)) ((b + 10 + 7 * t)) 2 (m ((c + 10 + 7 * t)) 2))) ((b + 10 + 7 * t)) 3 (m ((c + 10 + 7 * t)) 3))) ((b + 10 + 7 * t)) 4 (m ((c + 10 + 7 * t)) 4))) ((b + 10 + 7 * t)) 5 (m ((c + 10 + 7 * t)) 5))) ((b + 10 + 7 * t)) 6 (m ((c + 10 + 7 * t)) 6))) ((b + 10 + 7 * t)) 7 (m ((c + 10 + 7 * t)) 7))) ((c + 13 + 7 * t)) ((b + 13 + 7 * t)) 0 0 5)) b t c)
theorem xp_strandCp {σ : Nat → Nat × (Nat → Int32)} {yy : (Nat → Nat → Int64) × Bool × Nat × Nat} {m : Nat → Nat → Int32} {b : Nat} {t : Nat} {c : Nat} {d : Nat} (hd : 2 ≤ d + 1) (hb : BB b) (he : BB c) (ht : t < 4) (hbc : b + 42 ≤ c ∨ c + 42 ≤ b) (hon : m (c + 14 + 7 * t) 0 = 0 ∨ m (c + 14 + 7 * t) 0 = 1) : zEv σ (d + 1) 1201 0 [some (.ref (b + 10 + 7 * t)), some (.ref (c + 10 + 7 * t))] [] (zS1, m, yy) (.inl none) (zS1, ((x_strandCp m b t c)), yy) := by
  refine zeP rfl rfl ?_
  refine zeGR rfl rfl (shS he (by omega)) rfl rfl ?_
  refine zeKn (c := 0) rfl rfl rfl ?_
  refine zeP rfl rfl ?_
  refine zeGR rfl rfl (shS hb (by omega)) rfl rfl ?_
  refine zeKn (c := 0) rfl rfl rfl ?_
  refine zeKn (c := 24) rfl rfl rfl ?_
  refine zeCPY rfl rfl (shK he (by omega)) (shK hb (by omega)) (by omega) (by omega) (by omega) (by omega) rfl ?_
  refine zeP rfl rfl ?_
  refine zeGR rfl rfl (shS he (by omega)) rfl rfl ?_
  refine zeKn (c := 0) rfl rfl rfl ?_
  refine zeP rfl rfl ?_
  refine zeGR rfl rfl (shS hb (by omega)) rfl rfl ?_
  refine zeKn (c := 0) rfl rfl rfl ?_
  refine zeKn (c := 24) rfl rfl rfl ?_
  refine zeCPY rfl rfl (shN he (by omega)) (shN hb (by omega)) (by omega) (by omega) (by omega) (by omega) rfl ?_
  refine zeP rfl rfl ?_
  refine zeP rfl rfl ?_
  refine zeGI rfl rfl (shS he (by omega)) rfl rfl ?_
  rw [show (((zcpy ((zcpy m ((c + 11 + 7 * t)) ((b + 11 + 7 * t)) 0 0 24)) ((c + 12 + 7 * t)) ((b + 12 + 7 * t)) 0 0 24)) ((c + 10 + 7 * t)) 2) = m ((c + 10 + 7 * t)) 2 from (by simp (disch := omega) only [zx_ne, zcpy_ne, zx_ne])]
  refine zePI rfl rfl (shS hb (by omega)) rfl ?_
  refine zeP rfl rfl ?_
  refine zeP rfl rfl ?_
  refine zeGI rfl rfl (shS he (by omega)) rfl rfl ?_
  rw [show (((zm2 ((zcpy ((zcpy m ((c + 11 + 7 * t)) ((b + 11 + 7 * t)) 0 0 24)) ((c + 12 + 7 * t)) ((b + 12 + 7 * t)) 0 0 24)) ((b + 10 + 7 * t)) 2 (m ((c + 10 + 7 * t)) 2))) ((c + 10 + 7 * t)) 3) = m ((c + 10 + 7 * t)) 3 from (by simp (disch := omega) only [zx_ne, zcpy_ne, zx_ne])]
  refine zePI rfl rfl (shS hb (by omega)) rfl ?_
  refine zeP rfl rfl ?_
  refine zeP rfl rfl ?_
  refine zeGI rfl rfl (shS he (by omega)) rfl rfl ?_
  rw [show (((zm2 ((zm2 ((zcpy ((zcpy m ((c + 11 + 7 * t)) ((b + 11 + 7 * t)) 0 0 24)) ((c + 12 + 7 * t)) ((b + 12 + 7 * t)) 0 0 24)) ((b + 10 + 7 * t)) 2 (m ((c + 10 + 7 * t)) 2))) ((b + 10 + 7 * t)) 3 (m ((c + 10 + 7 * t)) 3))) ((c + 10 + 7 * t)) 4) = m ((c + 10 + 7 * t)) 4 from (by simp (disch := omega) only [zx_ne, zcpy_ne, zx_ne])]
  refine zePI rfl rfl (shS hb (by omega)) rfl ?_
  refine zeP rfl rfl ?_
  refine zeP rfl rfl ?_
  refine zeGI rfl rfl (shS he (by omega)) rfl rfl ?_
  rw [show (((zm2 ((zm2 ((zm2 ((zcpy ((zcpy m ((c + 11 + 7 * t)) ((b + 11 + 7 * t)) 0 0 24)) ((c + 12 + 7 * t)) ((b + 12 + 7 * t)) 0 0 24)) ((b + 10 + 7 * t)) 2 (m ((c + 10 + 7 * t)) 2))) ((b + 10 + 7 * t)) 3 (m ((c + 10 + 7 * t)) 3))) ((b + 10 + 7 * t)) 4 (m ((c + 10 + 7 * t)) 4))) ((c + 10 + 7 * t)) 5) = m ((c + 10 + 7 * t)) 5 from (by simp (disch := omega) only [zx_ne, zcpy_ne, zx_ne])]
  refine zePI rfl rfl (shS hb (by omega)) rfl ?_
  refine zeP rfl rfl ?_
  refine zeP rfl rfl ?_
  refine zeGI rfl rfl (shS he (by omega)) rfl rfl ?_
  rw [show (((zm2 ((zm2 ((zm2 ((zm2 ((zcpy ((zcpy m ((c + 11 + 7 * t)) ((b + 11 + 7 * t)) 0 0 24)) ((c + 12 + 7 * t)) ((b + 12 + 7 * t)) 0 0 24)) ((b + 10 + 7 * t)) 2 (m ((c + 10 + 7 * t)) 2))) ((b + 10 + 7 * t)) 3 (m ((c + 10 + 7 * t)) 3))) ((b + 10 + 7 * t)) 4 (m ((c + 10 + 7 * t)) 4))) ((b + 10 + 7 * t)) 5 (m ((c + 10 + 7 * t)) 5))) ((c + 10 + 7 * t)) 6) = m ((c + 10 + 7 * t)) 6 from (by simp (disch := omega) only [zx_ne, zcpy_ne, zx_ne])]
  refine zePI rfl rfl (shS hb (by omega)) rfl ?_
  refine zeP rfl rfl ?_
  refine zeP rfl rfl ?_
  refine zeGI rfl rfl (shS he (by omega)) rfl rfl ?_
  rw [show (((zm2 ((zm2 ((zm2 ((zm2 ((zm2 ((zcpy ((zcpy m ((c + 11 + 7 * t)) ((b + 11 + 7 * t)) 0 0 24)) ((c + 12 + 7 * t)) ((b + 12 + 7 * t)) 0 0 24)) ((b + 10 + 7 * t)) 2 (m ((c + 10 + 7 * t)) 2))) ((b + 10 + 7 * t)) 3 (m ((c + 10 + 7 * t)) 3))) ((b + 10 + 7 * t)) 4 (m ((c + 10 + 7 * t)) 4))) ((b + 10 + 7 * t)) 5 (m ((c + 10 + 7 * t)) 5))) ((b + 10 + 7 * t)) 6 (m ((c + 10 + 7 * t)) 6))) ((c + 10 + 7 * t)) 7) = m ((c + 10 + 7 * t)) 7 from (by simp (disch := omega) only [zx_ne, zcpy_ne, zx_ne])]
  refine zePI rfl rfl (shS hb (by omega)) rfl ?_
  refine zeP rfl rfl ?_
  refine zeGR rfl rfl (shS he (by omega)) rfl rfl ?_
  refine zeKn (c := 0) rfl rfl rfl ?_
  refine zeP rfl rfl ?_
  refine zeGR rfl rfl (shS hb (by omega)) rfl rfl ?_
  refine zeKn (c := 0) rfl rfl rfl ?_
  refine zeKn (c := 5) rfl rfl rfl ?_
  refine zeCPY rfl rfl (shF he (by omega)) (shF hb (by omega)) (by omega) (by omega) (by omega) (by omega) rfl ?_
  refine zeP rfl rfl ?_
  refine zeGR rfl rfl (shS hb (by omega)) rfl rfl ?_
  refine zeP rfl rfl ?_
  refine zeGR rfl rfl (shS he (by omega)) rfl rfl ?_
  refine zeCV rfl rfl rfl rfl (shG hb (by omega)) rfl (xc_guessCp (m := (zcpy ((zm2 ((zm2 ((zm2 ((zm2 ((zm2 ((zm2 ((zcpy ((zcpy m ((c + 11 + 7 * t)) ((b + 11 + 7 * t)) 0 0 24)) ((c + 12 + 7 * t)) ((b + 12 + 7 * t)) 0 0 24)) ((b + 10 + 7 * t)) 2 (m ((c + 10 + 7 * t)) 2))) ((b + 10 + 7 * t)) 3 (m ((c + 10 + 7 * t)) 3))) ((b + 10 + 7 * t)) 4 (m ((c + 10 + 7 * t)) 4))) ((b + 10 + 7 * t)) 5 (m ((c + 10 + 7 * t)) 5))) ((b + 10 + 7 * t)) 6 (m ((c + 10 + 7 * t)) 6))) ((b + 10 + 7 * t)) 7 (m ((c + 10 + 7 * t)) 7))) ((c + 13 + 7 * t)) ((b + 13 + 7 * t)) 0 0 5)) (b := b) (t := t) (c := c) hb he ht hbc (onK (by simp (disch := omega) only [zcpy_ne, zx_ne]) hon)) (by omega) ?_
  dsimp only [Option.toList, List.cons_append, List.nil_append]
  exact zeRe rfl rfl rfl rfl (by rfl) (by rfl)
theorem xc_strandCp {σ : Nat → Nat × (Nat → Int32)} {yy : (Nat → Nat → Int64) × Bool × Nat × Nat} {m : Nat → Nat → Int32} {b : Nat} {t : Nat} {c : Nat} (hb : BB b) (he : BB c) (ht : t < 4) (hbc : b + 42 ≤ c ∨ c + 42 ≤ b) (hon : m (c + 14 + 7 * t) 0 = 0 ∨ m (c + 14 + 7 * t) 0 = 1) : zF σ 2 1201 [.ref (b + 10 + 7 * t), .ref (c + 10 + 7 * t)] (zS1, m, yy) (.inl none) (zS1, ((x_strandCp m b t c)), yy) := by
  intro d hd
  obtain ⟨d, rfl⟩ : ∃ k, d = k + 1 := ⟨d - 1, by omega⟩
  exact xp_strandCp hd hb he ht hbc hon
noncomputable def x_logCp (m : Nat → Nat → Int32) (b : Nat) (c : Nat) : (Nat → Nat → Int32) := (zm2 ((zm2 ((zcpy m ((c + 41)) ((b + 41)) 0 0 240)) ((b + 40)) 1 (m ((c + 40)) 1))) ((b + 40)) 2 (m ((c + 40)) 2))
theorem xp_logCp {σ : Nat → Nat × (Nat → Int32)} {yy : (Nat → Nat → Int64) × Bool × Nat × Nat} {m : Nat → Nat → Int32} {b : Nat} {c : Nat} {d : Nat} (hd : 1 ≤ d + 1) (hb : BB b) (he : BB c) (hbc : b + 42 ≤ c ∨ c + 42 ≤ b) : zEv σ (d + 1) 401 0 [some (.ref (b + 40)), some (.ref (c + 40))] [] (zS1, m, yy) (.inl none) (zS1, ((x_logCp m b c)), yy) := by
  refine zeP rfl rfl ?_
  refine zeGR rfl rfl (shLG he) rfl rfl ?_
  refine zeKn (c := 0) rfl rfl rfl ?_
  refine zeP rfl rfl ?_
  refine zeGR rfl rfl (shLG hb) rfl rfl ?_
  refine zeKn (c := 0) rfl rfl rfl ?_
  refine zeKn (c := 240) rfl rfl rfl ?_
  refine zeCPY rfl rfl (shC he) (shC hb) (by omega) (by omega) (by omega) (by omega) rfl ?_
  refine zeP rfl rfl ?_
  refine zeP rfl rfl ?_
  refine zeGI rfl rfl (shLG he) rfl rfl ?_
  rw [show (((zcpy m ((c + 41)) ((b + 41)) 0 0 240)) ((c + 40)) 1) = m ((c + 40)) 1 from (by simp (disch := omega) only [zx_ne, zcpy_ne, zx_ne])]
  refine zePI rfl rfl (shLG hb) rfl ?_
  refine zeP rfl rfl ?_
  refine zeP rfl rfl ?_
  refine zeGI rfl rfl (shLG he) rfl rfl ?_
  rw [show (((zm2 ((zcpy m ((c + 41)) ((b + 41)) 0 0 240)) ((b + 40)) 1 (m ((c + 40)) 1))) ((c + 40)) 2) = m ((c + 40)) 2 from (by simp (disch := omega) only [zx_ne, zcpy_ne, zx_ne])]
  refine zePI rfl rfl (shLG hb) rfl ?_
  exact zeRe rfl rfl rfl rfl (by rfl) (by rfl)
theorem xc_logCp {σ : Nat → Nat × (Nat → Int32)} {yy : (Nat → Nat → Int64) × Bool × Nat × Nat} {m : Nat → Nat → Int32} {b : Nat} {c : Nat} (hb : BB b) (he : BB c) (hbc : b + 42 ≤ c ∨ c + 42 ≤ b) : zF σ 1 401 [.ref (b + 40), .ref (c + 40)] (zS1, m, yy) (.inl none) (zS1, ((x_logCp m b c)), yy) := by
  intro d hd
  obtain ⟨d, rfl⟩ : ∃ k, d = k + 1 := ⟨d - 1, by omega⟩
  exact xp_logCp hd hb he hbc
theorem strandCp_ne {m : Nat → Nat → Int32} {b t c i l : Nat} (h : i < b + 10 + 7 * t ∨ b + 17 + 7 * t ≤ i) : x_strandCp m b t c i l = m i l := by
  unfold x_strandCp
  rw [guessCp_ne (by omega)]
  simp (disch := omega) only [zx_ne, zcpy_ne]
theorem logCp_ne {m : Nat → Nat → Int32} {b c i l : Nat} (h : i ≠ b + 40 ∧ i ≠ b + 41) : x_logCp m b c i l = m i l := by
  unfold x_logCp
  simp (disch := omega) only [zx_ne, zcpy_ne]
noncomputable def xl_copyT (b : Nat) (c : Nat) (n5 : Nat) : Nat → Nat → (Nat → Nat → Int32) → (Nat → Nat → Int32)
  | 0, k, m => (x_logCp ((zm2 ((zcpy ((zcpy ((zm2 ((zm2 ((zm2 ((zm2 m b 6 (m c 6))) b 7 (m c 7))) b 8 (m c 8))) b 9 (m c 9))) ((c + 38)) ((b + 38)) 0 0 20)) ((c + 39)) ((b + 39)) 0 0 20)) b 12 (m c 12))) b c)
  | n + 1, k, m => (xl_copyT b c n5 n ((k + 1)) ((x_strandCp m b k c)))
theorem xw_copyT {σ : Nat → Nat × (Nat → Int32)} {yy : (Nat → Nat → Int64) × Bool × Nat × Nat} {b : Nat} {c : Nat} {n5 : Nat} {d : Nat} (hd : 3 ≤ d + 1) (hb : BB b) (he : BB c) (hbc : b + 42 ≤ c ∨ c + 42 ≤ b) (hn4 : n5 ≤ 4) : ∀ (n : Nat) (k : Nat) (m : Nat → Nat → Int32), k + n = n5 → m b 5 = Int32.ofNat n5 → (∀ t, t < 4 → m (c + 14 + 7 * t) 0 = 0 ∨ m (c + 14 + 7 * t) 0 = 1) → zEv σ (d + 1) 601 83 [some (.ref b), some (.ref c), some (.int (Int32.ofNat k))] [] (zS1, m, yy) (.inl none) (zS1, ((xl_copyT b c n5 n k m)), yy) := by
  intro n
  induction n with
  | zero =>
    intro k m hk h5 hon
    refine zeP rfl rfl ?_
    refine zeP rfl rfl ?_
    refine zeGI rfl rfl (shM hb) rfl rfl ?_
    rw [h5]
    refine zeT2 rfl rfl (zcge (by omega) (by omega) (by omega)) ?_
    refine zeP rfl rfl ?_
    refine zeP rfl rfl ?_
    refine zeGI rfl rfl (shM he) rfl rfl ?_
    refine zePI rfl rfl (shM hb) rfl ?_
    refine zeP rfl rfl ?_
    refine zeP rfl rfl ?_
    refine zeGI rfl rfl (shM he) rfl rfl ?_
    rw [show (((zm2 m b 6 (m c 6))) c 7) = m c 7 from (by simp (disch := omega) only [zx_ne, zcpy_ne, zx_ne])]
    refine zePI rfl rfl (shM hb) rfl ?_
    refine zeP rfl rfl ?_
    refine zeP rfl rfl ?_
    refine zeGI rfl rfl (shM he) rfl rfl ?_
    rw [show (((zm2 ((zm2 m b 6 (m c 6))) b 7 (m c 7))) c 8) = m c 8 from (by simp (disch := omega) only [zx_ne, zcpy_ne, zx_ne])]
    refine zePI rfl rfl (shM hb) rfl ?_
    refine zeP rfl rfl ?_
    refine zeP rfl rfl ?_
    refine zeGI rfl rfl (shM he) rfl rfl ?_
    rw [show (((zm2 ((zm2 ((zm2 m b 6 (m c 6))) b 7 (m c 7))) b 8 (m c 8))) c 9) = m c 9 from (by simp (disch := omega) only [zx_ne, zcpy_ne, zx_ne])]
    refine zePI rfl rfl (shM hb) rfl ?_
    refine zeP rfl rfl ?_
    refine zeGR rfl rfl (shM he) rfl rfl ?_
    refine zeKn (c := 0) rfl rfl rfl ?_
    refine zeP rfl rfl ?_
    refine zeGR rfl rfl (shM hb) rfl rfl ?_
    refine zeKn (c := 0) rfl rfl rfl ?_
    refine zeKn (c := 20) rfl rfl rfl ?_
    refine zeCPY rfl rfl (shOT he) (shOT hb) (by omega) (by omega) (by omega) (by omega) rfl ?_
    refine zeP rfl rfl ?_
    refine zeGR rfl rfl (shM he) rfl rfl ?_
    refine zeKn (c := 0) rfl rfl rfl ?_
    refine zeP rfl rfl ?_
    refine zeGR rfl rfl (shM hb) rfl rfl ?_
    refine zeKn (c := 0) rfl rfl rfl ?_
    refine zeKn (c := 20) rfl rfl rfl ?_
    refine zeCPY rfl rfl (shOS he) (shOS hb) (by omega) (by omega) (by omega) (by omega) rfl ?_
    refine zeP rfl rfl ?_
    refine zeP rfl rfl ?_
    refine zeGI rfl rfl (shM he) rfl rfl ?_
    rw [show (((zcpy ((zcpy ((zm2 ((zm2 ((zm2 ((zm2 m b 6 (m c 6))) b 7 (m c 7))) b 8 (m c 8))) b 9 (m c 9))) ((c + 38)) ((b + 38)) 0 0 20)) ((c + 39)) ((b + 39)) 0 0 20)) c 12) = m c 12 from (by simp (disch := omega) only [zx_ne, zcpy_ne, zx_ne])]
    refine zePI rfl rfl (shM hb) rfl ?_
    refine zeP rfl rfl ?_
    refine zeGR rfl rfl (shM hb) rfl rfl ?_
    refine zeP rfl rfl ?_
    refine zeGR rfl rfl (shM he) rfl rfl ?_
    refine zeCV rfl rfl rfl rfl (shLG hb) rfl (xc_logCp (m := (zm2 ((zcpy ((zcpy ((zm2 ((zm2 ((zm2 ((zm2 m b 6 (m c 6))) b 7 (m c 7))) b 8 (m c 8))) b 9 (m c 9))) ((c + 38)) ((b + 38)) 0 0 20)) ((c + 39)) ((b + 39)) 0 0 20)) b 12 (m c 12))) (b := b) (c := c) hb he hbc) (by omega) ?_
    dsimp only [Option.toList, List.cons_append, List.nil_append]
    exact zeRe rfl rfl rfl rfl (by rfl) (by rfl)
  | succ n ih =>
    intro k m hk h5 hon
    refine zeP rfl rfl ?_
    refine zeP rfl rfl ?_
    refine zeGI rfl rfl (shM hb) rfl rfl ?_
    rw [h5]
    refine zeF2 rfl rfl (zcge_f (by omega) (by omega) (by omega)) ?_
    refine zeP rfl rfl ?_
    refine zeKn (c := 4) rfl rfl rfl ?_
    refine zeF2 rfl rfl (zcge_f (by omega) (by omega) (by omega)) ?_
    refine zeP rfl rfl ?_
    refine zeGR rfl rfl (shM hb) rfl rfl ?_
    refine zeP rfl rfl ?_
    refine zeRL (k := k) rfl (shSA hb) rfl rfl (by omega) (rvS (by omega)) ?_
    refine zeP rfl rfl ?_
    refine zeGR rfl rfl (shM he) rfl rfl ?_
    refine zeP rfl rfl ?_
    refine zeRL (k := k) rfl (shSA he) rfl rfl (by omega) (rvS (by omega)) ?_
    refine zeCV rfl rfl rfl rfl (shS hb (by omega)) rfl (xc_strandCp (m := m) (b := b) (t := k) (c := c) hb he (by omega) hbc (hon k (by omega))) (by omega) ?_
    dsimp only [Option.toList, List.cons_append, List.nil_append]
    refine zeInc rfl rfl ?_
    refine zeP rfl rfl ?_
    simp only [xl_copyT, cond_true, cond_false]
    exact ih ((k + 1))  ((x_strandCp m b k c)) (by omega) (by rw [strandCp_ne (by omega)]; exact h5) (fun t ht => by rw [strandCp_ne (by omega)]; exact hon t ht)
noncomputable def xl_copyK (b : Nat) (c : Nat) (n5 : Nat) : Nat → Nat → (Nat → Nat → Int32) → (Nat → Nat → Int32)
  | 0, k, m => (xl_copyT b c n5 n5 0 ((zm2 m b 5 (Int32.ofNat n5))))
  | n + 1, k, m => (xl_copyK b c n5 n ((k + 1)) ((x_lockCp m b k c)))
theorem xw_copyK {σ : Nat → Nat × (Nat → Int32)} {yy : (Nat → Nat → Int64) × Bool × Nat × Nat} {b : Nat} {c : Nat} {n5 : Nat} {d : Nat} (hd : 3 ≤ d + 1) (hb : BB b) (he : BB c) (hbc : b + 42 ≤ c ∨ c + 42 ≤ b) (hn4 : n5 ≤ 4) : ∀ (n : Nat) (k : Nat) (m : Nat → Nat → Int32), k + n = 4 → m c 5 = Int32.ofNat n5 → (∀ t, t < 4 → m (c + 14 + 7 * t) 0 = 0 ∨ m (c + 14 + 7 * t) 0 = 1) → zEv σ (d + 1) 601 47 [some (.ref b), some (.ref c), some (.int (Int32.ofNat k))] [] (zS1, m, yy) (.inl none) (zS1, ((xl_copyK b c n5 n k m)), yy) := by
  intro n
  induction n with
  | zero =>
    intro k m hk h5 hon
    refine zeP rfl rfl ?_
    refine zeKn (c := 4) rfl rfl rfl ?_
    refine zeT2 rfl rfl (zcge (by omega) (by omega) (by omega)) ?_
    refine zeP rfl rfl ?_
    refine zeP rfl rfl ?_
    refine zeGI rfl rfl (shM he) rfl rfl ?_
    rw [h5]
    refine zePI rfl rfl (shM hb) rfl ?_
    refine zeKn (c := 0) rfl rfl rfl ?_
    refine zeP rfl rfl ?_
    simp only [xl_copyK, cond_true, cond_false]
    exact xw_copyT (b := b) (c := c) (n5 := n5) (by omega) hb he hbc hn4 n5 (0)  ((zm2 m b 5 (Int32.ofNat n5))) (by omega) (zx_at _ _ _ _) (fun t ht => by rw [zx_ne _ _ _ (by omega)]; exact hon t ht)
  | succ n ih =>
    intro k m hk h5 hon
    refine zeP rfl rfl ?_
    refine zeKn (c := 4) rfl rfl rfl ?_
    refine zeF2 rfl rfl (zcge_f (by omega) (by omega) (by omega)) ?_
    refine zeP rfl rfl ?_
    refine zeGR rfl rfl (shM hb) rfl rfl ?_
    refine zeP rfl rfl ?_
    refine zeRL (k := k) rfl (shLA hb) rfl rfl (by omega) (rvL (by omega)) ?_
    refine zeP rfl rfl ?_
    refine zeGR rfl rfl (shM he) rfl rfl ?_
    refine zeP rfl rfl ?_
    refine zeRL (k := k) rfl (shLA he) rfl rfl (by omega) (rvL (by omega)) ?_
    refine zeCV rfl rfl rfl rfl (shL hb (by omega)) rfl (xc_lockCp (m := m) (b := b) (l := k) (c := c) hb he (by omega) hbc) (by omega) ?_
    dsimp only [Option.toList, List.cons_append, List.nil_append]
    refine zeInc rfl rfl ?_
    refine zeP rfl rfl ?_
    simp only [xl_copyK, cond_true, cond_false]
    exact ih ((k + 1))  ((x_lockCp m b k c)) (by omega) (by rw [lockCp_ne (by omega)]; exact h5) (fun t ht => by rw [lockCp_ne (by omega)]; exact hon t ht)
noncomputable def x_copyFrom (m : Nat → Nat → Int32) (b : Nat) (c : Nat) : (Nat → Nat → Int32) := (xl_copyK b c ((mv m c 5)) 4 0 ((zcpy ((zcpy ((zcpy m ((c + 1)) ((b + 1)) 0 0 32)) ((c + 2)) ((b + 2)) 0 0 32)) ((c + 3)) ((b + 3)) 0 0 9)))
theorem xp_copyFrom {σ : Nat → Nat × (Nat → Int32)} {yy : (Nat → Nat → Int64) × Bool × Nat × Nat} {m : Nat → Nat → Int32} {b : Nat} {c : Nat} {d : Nat} (hd : 3 ≤ d + 1) (hb : BB b) (he : BB c) (hbc : b + 42 ≤ c ∨ c + 42 ≤ b) (h5 : m c 5 = Int32.ofNat (mv m c 5)) (hn4 : mv m c 5 ≤ 4) (hon : (∀ t, t < 4 → m (c + 14 + 7 * t) 0 = 0 ∨ m (c + 14 + 7 * t) 0 = 1)) : zEv σ (d + 1) 601 0 [some (.ref b), some (.ref c), none] [] (zS1, m, yy) (.inl none) (zS1, ((x_copyFrom m b c)), yy) := by
  refine zeP rfl rfl ?_
  refine zeGR rfl rfl (shM he) rfl rfl ?_
  refine zeKn (c := 0) rfl rfl rfl ?_
  refine zeP rfl rfl ?_
  refine zeGR rfl rfl (shM hb) rfl rfl ?_
  refine zeKn (c := 0) rfl rfl rfl ?_
  refine zeKn (c := 32) rfl rfl rfl ?_
  refine zeCPY rfl rfl (shW he) (shW hb) (by omega) (by omega) (by omega) (by omega) rfl ?_
  refine zeP rfl rfl ?_
  refine zeGR rfl rfl (shM he) rfl rfl ?_
  refine zeKn (c := 0) rfl rfl rfl ?_
  refine zeP rfl rfl ?_
  refine zeGR rfl rfl (shM hb) rfl rfl ?_
  refine zeKn (c := 0) rfl rfl rfl ?_
  refine zeKn (c := 32) rfl rfl rfl ?_
  refine zeCPY rfl rfl (shT he) (shT hb) (by omega) (by omega) (by omega) (by omega) rfl ?_
  refine zeP rfl rfl ?_
  refine zeGR rfl rfl (shM he) rfl rfl ?_
  refine zeKn (c := 0) rfl rfl rfl ?_
  refine zeP rfl rfl ?_
  refine zeGR rfl rfl (shM hb) rfl rfl ?_
  refine zeKn (c := 0) rfl rfl rfl ?_
  refine zeKn (c := 9) rfl rfl rfl ?_
  refine zeCPY rfl rfl (shE he) (shE hb) (by omega) (by omega) (by omega) (by omega) rfl ?_
  refine zeKn (c := 0) rfl rfl rfl ?_
  refine zeP rfl rfl ?_
  simp only [x_copyFrom, cond_true, cond_false]
  exact xw_copyK (b := b) (c := c) (n5 := (mv m c 5)) (by omega) hb he hbc hn4 4 (0)  ((zcpy ((zcpy ((zcpy m ((c + 1)) ((b + 1)) 0 0 32)) ((c + 2)) ((b + 2)) 0 0 32)) ((c + 3)) ((b + 3)) 0 0 9)) (by omega) (by simp (disch := omega) only [zcpy_ne]; exact h5) (fun t ht => by simp (disch := omega) only [zcpy_ne]; exact hon t ht)
theorem xc_copyFrom {σ : Nat → Nat × (Nat → Int32)} {yy : (Nat → Nat → Int64) × Bool × Nat × Nat} {m : Nat → Nat → Int32} {b : Nat} {c : Nat} (hb : BB b) (he : BB c) (hbc : b + 42 ≤ c ∨ c + 42 ≤ b) (h5 : m c 5 = Int32.ofNat (mv m c 5)) (hn4 : mv m c 5 ≤ 4) (hon : (∀ t, t < 4 → m (c + 14 + 7 * t) 0 = 0 ∨ m (c + 14 + 7 * t) 0 = 1)) : zF σ 3 601 [.ref b, .ref c] (zS1, m, yy) (.inl none) (zS1, ((x_copyFrom m b c)), yy) := by
  intro d hd
  obtain ⟨d, rfl⟩ : ∃ k, d = k + 1 := ⟨d - 1, by omega⟩
  exact xp_copyFrom hd hb he hbc h5 hn4 hon
end
