/-! the reference's text of a thread: that it ends, and what it leaves alone -/
noncomputable def PT (m m' : Nat → Nat → Int32) (w : Nat) : Prop := (∀ i, i ≠ 137 → i ≠ 145 → m' i = m i) ∧ (∀ k, k ≠ 16 → m' 137 k = m 137 k) ∧ m' 137 16 = Int32.ofNat w
theorem PT.tr {a b c : Nat → Nat → Int32} {v w : Nat} (h : PT a b v) (g : PT b c w) : PT a c w := ⟨fun i h1 h2 => (g.1 i h1 h2).trans (h.1 i h1 h2), fun k hk => (g.2.1 k hk).trans (h.2.1 k hk), g.2.2⟩
theorem PT.byte (m : Nat → Nat → Int32) (w : Nat) (x : Int32) : PT m (zm2 (zm2 m 145 w x) 137 16 (Int32.ofNat (w + 1))) (w + 1) :=
  ⟨fun i h1 h2 => by rw [zm2_i _ _ h1, zm2_i _ _ h2], fun k hk => by rw [zm2_k _ _ hk, zm2_i _ _ (by decide)], zm2_a _ _ _ _⟩
theorem zS145 : zS1[145]? = some (11, 400, []) := rfl
section ZTX
variable {σ : Nat → Nat × (Nat → Int32)} {yy : (Nat → Nat → Int64) × Bool × Nat × Nat} {W : Nat → Int32}
theorem w_prints {s : Nat} (hs : s < 37) : ∀ (n k w : Nat) (m : Nat → Nat → Int32), k + n = (zby s).length → m 137 16 = Int32.ofNat w → w + n ≤ 400 → ∃ m', PT m m' (w + n) ∧ ∀ d, zEv σ (d + 1) 1907 2 [some (.ref 137), some (.ref (1100 + s)), some (.int (Int32.ofNat k))] [] (zS1, zrow m 138 W, yy) (.inl none) (zS1, zrow m' 138 W, yy) := by
  have hl := zby_len s hs
  intro n
  induction n with
  | zero =>
    intro k w m hk hw hw4
    refine ⟨m, ⟨fun _ _ _ => rfl, fun _ _ => rfl, hw⟩, fun d => ?_⟩
    refine zeP rfl rfl ?_
    refine zeP rfl rfl ?_
    refine zeLn hs rfl rfl rfl rfl rfl ?_
    refine zeT2 rfl rfl (zcge (by omega) (by omega) (by omega)) ?_
    exact zeRe rfl rfl rfl rfl rfl rfl
  | succ n ih =>
    intro k w m hk hw hw4
    obtain ⟨m', h1, h2⟩ := ih (k + 1) (w + 1) (zm2 (zm2 m 145 w (vp_nar .byte ((zby s).getD k 0).toInt8.toInt32)) 137 16 (Int32.ofNat (w + 1))) (by omega) (zm2_a _ _ _ _) (by omega)
    refine ⟨m', by rw [show w + (n + 1) = w + 1 + n by omega]; exact (PT.byte m w _).tr h1, fun d => ?_⟩
    refine zeP rfl rfl ?_
    refine zeP rfl rfl ?_
    refine zeLn hs rfl rfl rfl rfl rfl ?_
    refine zeF2 rfl rfl (zcge_f (by omega) (by omega) (by omega)) ?_
    refine zeP rfl rfl ?_
    refine zeGR rfl rfl zS137 rfl rfl ?_
    refine zeP rfl rfl ?_
    refine zeFI rfl rfl rfl rfl ?_
    rw [hw]
    refine zeP rfl rfl ?_
    refine zeP rfl rfl ?_
    refine zeCh hs (by omega) rfl rfl rfl rfl rfl ?_
    refine zeP rfl rfl ?_
    refine zeQBS (a := 145) (k := w) rfl (by decide) zS145 rfl (by omega) ?_
    refine zeP rfl rfl ?_
    refine zeP rfl rfl ?_
    refine zeFI rfl rfl rfl rfl ?_
    rw [zm2_i m (a := 145) (k := w) _ (show 137 ≠ 145 by decide), hw]
    refine zeKn (c := 1) rfl rfl rfl ?_
    refine zeAdd rfl ?_
    refine zeFP rfl rfl rfl ?_
    refine zeInc rfl rfl ?_
    refine zeP rfl rfl ?_
    exact h2 d
theorem c_prints {s w : Nat} {m : Nat → Nat → Int32} (hs : s < 37) (hw : m 137 16 = Int32.ofNat w) (h4 : w + (zby s).length ≤ 400) : ∃ m', PT m m' (w + (zby s).length) ∧ zF σ 1 1907 [.ref 137, .ref (1100 + s)] (zS1, zrow m 138 W, yy) (.inl none) (zS1, zrow m' 138 W, yy) := by
  obtain ⟨m', h1, h2⟩ := w_prints (σ := σ) (yy := yy) (W := W) hs (zby s).length 0 w m (by omega) hw h4
  refine ⟨m', h1, fun d hd => ?_⟩
  obtain ⟨d, rfl⟩ : ∃ k, d = k + 1 := ⟨d - 1, by omega⟩
  show zEv σ (d + 1) 1907 0 [some (.ref 137), some (.ref (1100 + s)), none] [] _ _ _
  refine zeKn (c := 0) rfl rfl rfl ?_
  refine zeP rfl rfl ?_
  exact h2 d
/-- the last digit -/
theorem printsN {w h : Nat} {v : Int32} {m m1 : Nat → Nat → Int32} (hw : m1 137 16 = Int32.ofNat w) (hm : PT m m1 w) (h4 : w + 1 ≤ 400) (hv : ∀ d, h ≤ d → ∀ {o M'}, zEv σ (d + 1) 1908 14 [some (.ref 137), some (.int v)] [] (zS1, zrow m1 138 W, yy) o M' → zEv σ (d + 1) 1908 0 [some (.ref 137), some (.int v)] [] (zS1, zrow m 138 W, yy) o M') : ∃ m', PT m m' (w + 1) ∧ zF σ (h + 1) 1908 [.ref 137, .int v] (zS1, zrow m 138 W, yy) (.inl none) (zS1, zrow m' 138 W, yy) := by
  refine ⟨_, hm.tr (PT.byte m1 w (vp_nar .byte (Int32.ofNat 48 + (v - v / Int32.ofNat 10 * Int32.ofNat 10)).toInt8.toInt32)), fun d hd => ?_⟩
  obtain ⟨d, rfl⟩ : ∃ k, d = k + 1 := ⟨d - 1, by omega⟩
  refine hv d (by omega) ?_
  refine zeP rfl rfl ?_
  refine zeGR rfl rfl zS137 rfl rfl ?_
  refine zeP rfl rfl ?_
  refine zeFI rfl rfl rfl rfl ?_
  rw [hw]
  refine zeKn (c := 48) rfl rfl rfl ?_
  refine zeP rfl rfl ?_
  refine zeKn (c := 10) rfl rfl rfl ?_
  refine zeRem rfl (by decide) ?_
  refine zeP rfl rfl ?_
  refine zeP rfl rfl ?_
  refine zeQBS (a := 145) (k := w) rfl (by decide) zS145 rfl (by omega) ?_
  refine zeP rfl rfl ?_
  refine zeP rfl rfl ?_
  refine zeFI rfl rfl rfl rfl ?_
  rw [zm2_i m1 (a := 145) (k := w) _ (show 137 ≠ 145 by decide), hw]
  refine zeKn (c := 1) rfl rfl rfl ?_
  refine zeAdd rfl ?_
  refine zeFP rfl rfl rfl ?_
  exact zeRe rfl rfl rfl rfl rfl rfl
theorem tlt_t {a b : Nat} (ha : a ≤ 100000) (hb : b ≤ 100000) (h : a < b) : zc2 .lt (Int32.ofNat a) (Int32.ofNat b) = true := by
  apply decide_eq_true
  rw [Int32.lt_iff_toInt_lt, zoN (by omega), zoN (by omega)]
  omega
theorem tlt_f {a b : Nat} (ha : a ≤ 100000) (hb : b ≤ 100000) (h : b ≤ a) : zc2 .lt (Int32.ofNat a) (Int32.ofNat b) = false := by
  apply decide_eq_false
  rw [Int32.lt_iff_toInt_lt, zoN (by omega), zoN (by omega)]
  omega
theorem zdiv10 {v : Nat} (h : v < 1000) : Int32.ofNat v / Int32.ofNat 10 = Int32.ofNat (v / 10) := by
  apply Int32.toInt_inj.mp
  rw [Int32.toInt_div_of_ne_right _ _ (by decide), zoN (by omega), zoN (by omega), zoN (by omega), Int.tdiv_eq_ediv_of_nonneg (by omega)]
  omega
theorem c_printsN1 {v w : Nat} {m : Nat → Nat → Int32} (hv : v < 10) (hw : m 137 16 = Int32.ofNat w) (h4 : w + 1 ≤ 400) : ∃ m', PT m m' (w + 1) ∧ zF σ 1 1908 [.ref 137, .int (Int32.ofNat v)] (zS1, zrow m 138 W, yy) (.inl none) (zS1, zrow m' 138 W, yy) := by
  refine printsN (h := 0) hw ⟨fun _ _ _ => rfl, fun _ _ => rfl, hw⟩ h4 (fun d _ o M' k => ?_)
  refine zeP rfl rfl ?_
  refine zeKn (c := 10) rfl rfl rfl ?_
  exact zeT2 rfl rfl (tlt_t (by omega) (by omega) hv) k
theorem c_printsN' {v w j h : Nat} {m : Nat → Nat → Int32} (hv : 10 ≤ v) (hv2 : v < 1000) (h4 : w + j + 1 ≤ 400) (ih : ∃ m' w', w' ≤ w + j ∧ PT m m' w' ∧ zF σ h 1908 [.ref 137, .int (Int32.ofNat (v / 10))] (zS1, zrow m 138 W, yy) (.inl none) (zS1, zrow m' 138 W, yy)) : ∃ m' w', w' ≤ w + j + 1 ∧ PT m m' w' ∧ zF σ (h + 1) 1908 [.ref 137, .int (Int32.ofNat v)] (zS1, zrow m 138 W, yy) (.inl none) (zS1, zrow m' 138 W, yy) := by
  obtain ⟨m1, w1, g1, g2, g3⟩ := ih
  obtain ⟨m', g4, g5⟩ := printsN (σ := σ) (yy := yy) (W := W) (h := h) (v := Int32.ofNat v) (m := m) (m1 := m1) g2.2.2 g2 (by omega) (fun d hd o M' k => by
    refine zeP rfl rfl ?_
    refine zeKn (c := 10) rfl rfl rfl ?_
    refine zeF2 rfl rfl (tlt_f (by omega) (by omega) hv) ?_
    refine zeP rfl rfl ?_
    refine zeP rfl rfl ?_
    refine zeKn (c := 10) rfl rfl rfl ?_
    refine zeDiv rfl (by decide) ?_
    rw [zdiv10 hv2]
    refine zeCF rfl rfl rfl rfl rfl rfl g3 hd ?_
    exact k)
  exact ⟨m', w1 + 1, by omega, g4, g5⟩
theorem c_printsNumber {v w : Nat} {m : Nat → Nat → Int32} (hv : v < 1000) (hw : m 137 16 = Int32.ofNat w) (h4 : w + 3 ≤ 400) : ∃ m' w', w' ≤ w + 3 ∧ PT m m' w' ∧ zF σ 3 1908 [.ref 137, .int (Int32.ofNat v)] (zS1, zrow m 138 W, yy) (.inl none) (zS1, zrow m' 138 W, yy) := by
  have one : ∀ u, u < 10 → ∃ m' w', w' ≤ w + 1 ∧ PT m m' w' ∧ zF σ 1 1908 [.ref 137, .int (Int32.ofNat u)] (zS1, zrow m 138 W, yy) (.inl none) (zS1, zrow m' 138 W, yy) := fun u hu => by
    obtain ⟨m', a, b⟩ := c_printsN1 (σ := σ) (yy := yy) (W := W) hu hw (by omega)
    exact ⟨m', w + 1, Nat.le_refl _, a, b⟩
  have two : ∀ u, u < 100 → ∃ m' w', w' ≤ w + 2 ∧ PT m m' w' ∧ zF σ 2 1908 [.ref 137, .int (Int32.ofNat u)] (zS1, zrow m 138 W, yy) (.inl none) (zS1, zrow m' 138 W, yy) := fun u hu => by
    by_cases h : u < 10
    · obtain ⟨m', w', a, b, c⟩ := one u h
      exact ⟨m', w', by omega, b, c.up (by omega)⟩
    · exact c_printsN' (j := 1) (h := 1) (by omega) (by omega) (by omega) (one (u / 10) (by omega))
  by_cases h : v < 100
  · obtain ⟨m', w', a, b, c⟩ := two v h
    exact ⟨m', w', by omega, b, c.up (by omega)⟩
  · exact c_printsN' (j := 2) (h := 2) (by omega) (by omega) (by omega) (two (v / 10) (by omega))
theorem c_pd0 {n w : Nat} {m : Nat → Nat → Int32} (hn : n < 1000) (hw : m 137 16 = Int32.ofNat w) (h4 : w + 8 ≤ 400) : ∃ m' w', w' ≤ w + 8 ∧ PT m m' w' ∧ zF σ 4 1909 [.ref 137, .int (Int32.ofNat 0), .int (Int32.ofNat n)] (zS1, zrow m 138 W, yy) (.inl none) (zS1, zrow m' 138 W, yy) := by
  have e : (zby 28).length = 5 := rfl
  obtain ⟨m1, a1, b1⟩ := c_prints (σ := σ) (yy := yy) (W := W) (s := 28) (by decide) hw (by rw [e]; omega)
  rw [e] at a1
  obtain ⟨m2, w2, a2, b2, c2⟩ := c_printsNumber (σ := σ) (yy := yy) (W := W) hn a1.2.2 (by omega)
  refine ⟨m2, w2, by omega, a1.tr b2, fun d hd => ?_⟩
  obtain ⟨d, rfl⟩ : ∃ k, d = k + 1 := ⟨d - 1, by omega⟩
  show zEv σ (d + 1) 1909 0 [some (.ref 137), some (.int (Int32.ofNat 0)), some (.int (Int32.ofNat n))] [] _ _ _
  refine zeP rfl rfl ?_
  refine zeSw (K := 0) rfl rfl rfl ?_
  refine zeP rfl rfl ?_
  refine zeS rfl rfl rfl ?_
  refine zeCF rfl rfl rfl rfl rfl rfl b1 (by omega) ?_
  dsimp only [Option.toList, List.cons_append, List.nil_append]
  refine zeP rfl rfl ?_
  refine zeP rfl rfl ?_
  refine zeKn (c := 7) rfl rfl rfl ?_
  refine zeF2 rfl rfl (show zc2 .eq (Int32.ofNat 0) (Int32.ofNat 7) = false by decide) ?_
  refine zeP rfl rfl ?_
  refine zeP rfl rfl ?_
  refine zeCF rfl rfl rfl rfl rfl rfl c2 (by omega) ?_
  dsimp only [Option.toList, List.cons_append, List.nil_append]
  exact zeRe rfl rfl rfl rfl rfl rfl
theorem c_pd1 {n w : Nat} {m : Nat → Nat → Int32} (hn : n < 1000) (hw : m 137 16 = Int32.ofNat w) (h4 : w + 8 ≤ 400) : ∃ m' w', w' ≤ w + 8 ∧ PT m m' w' ∧ zF σ 4 1909 [.ref 137, .int (Int32.ofNat 1), .int (Int32.ofNat n)] (zS1, zrow m 138 W, yy) (.inl none) (zS1, zrow m' 138 W, yy) := by
  have e : (zby 29).length = 5 := rfl
  obtain ⟨m1, a1, b1⟩ := c_prints (σ := σ) (yy := yy) (W := W) (s := 29) (by decide) hw (by rw [e]; omega)
  rw [e] at a1
  obtain ⟨m2, w2, a2, b2, c2⟩ := c_printsNumber (σ := σ) (yy := yy) (W := W) hn a1.2.2 (by omega)
  refine ⟨m2, w2, by omega, a1.tr b2, fun d hd => ?_⟩
  obtain ⟨d, rfl⟩ : ∃ k, d = k + 1 := ⟨d - 1, by omega⟩
  show zEv σ (d + 1) 1909 0 [some (.ref 137), some (.int (Int32.ofNat 1)), some (.int (Int32.ofNat n))] [] _ _ _
  refine zeP rfl rfl ?_
  refine zeSw (K := 1) rfl rfl rfl ?_
  refine zeP rfl rfl ?_
  refine zeS rfl rfl rfl ?_
  refine zeCF rfl rfl rfl rfl rfl rfl b1 (by omega) ?_
  dsimp only [Option.toList, List.cons_append, List.nil_append]
  refine zeP rfl rfl ?_
  refine zeP rfl rfl ?_
  refine zeKn (c := 7) rfl rfl rfl ?_
  refine zeF2 rfl rfl (show zc2 .eq (Int32.ofNat 1) (Int32.ofNat 7) = false by decide) ?_
  refine zeP rfl rfl ?_
  refine zeP rfl rfl ?_
  refine zeCF rfl rfl rfl rfl rfl rfl c2 (by omega) ?_
  dsimp only [Option.toList, List.cons_append, List.nil_append]
  exact zeRe rfl rfl rfl rfl rfl rfl
theorem c_pd2 {n w : Nat} {m : Nat → Nat → Int32} (hn : n < 1000) (hw : m 137 16 = Int32.ofNat w) (h4 : w + 8 ≤ 400) : ∃ m' w', w' ≤ w + 8 ∧ PT m m' w' ∧ zF σ 4 1909 [.ref 137, .int (Int32.ofNat 2), .int (Int32.ofNat n)] (zS1, zrow m 138 W, yy) (.inl none) (zS1, zrow m' 138 W, yy) := by
  have e : (zby 30).length = 4 := rfl
  obtain ⟨m1, a1, b1⟩ := c_prints (σ := σ) (yy := yy) (W := W) (s := 30) (by decide) hw (by rw [e]; omega)
  rw [e] at a1
  obtain ⟨m2, w2, a2, b2, c2⟩ := c_printsNumber (σ := σ) (yy := yy) (W := W) hn a1.2.2 (by omega)
  refine ⟨m2, w2, by omega, a1.tr b2, fun d hd => ?_⟩
  obtain ⟨d, rfl⟩ : ∃ k, d = k + 1 := ⟨d - 1, by omega⟩
  show zEv σ (d + 1) 1909 0 [some (.ref 137), some (.int (Int32.ofNat 2)), some (.int (Int32.ofNat n))] [] _ _ _
  refine zeP rfl rfl ?_
  refine zeSw (K := 2) rfl rfl rfl ?_
  refine zeP rfl rfl ?_
  refine zeS rfl rfl rfl ?_
  refine zeCF rfl rfl rfl rfl rfl rfl b1 (by omega) ?_
  dsimp only [Option.toList, List.cons_append, List.nil_append]
  refine zeP rfl rfl ?_
  refine zeP rfl rfl ?_
  refine zeKn (c := 7) rfl rfl rfl ?_
  refine zeF2 rfl rfl (show zc2 .eq (Int32.ofNat 2) (Int32.ofNat 7) = false by decide) ?_
  refine zeP rfl rfl ?_
  refine zeP rfl rfl ?_
  refine zeCF rfl rfl rfl rfl rfl rfl c2 (by omega) ?_
  dsimp only [Option.toList, List.cons_append, List.nil_append]
  exact zeRe rfl rfl rfl rfl rfl rfl
theorem c_pd3 {n w : Nat} {m : Nat → Nat → Int32} (hn : n < 1000) (hw : m 137 16 = Int32.ofNat w) (h4 : w + 8 ≤ 400) : ∃ m' w', w' ≤ w + 8 ∧ PT m m' w' ∧ zF σ 4 1909 [.ref 137, .int (Int32.ofNat 3), .int (Int32.ofNat n)] (zS1, zrow m 138 W, yy) (.inl none) (zS1, zrow m' 138 W, yy) := by
  have e : (zby 31).length = 4 := rfl
  obtain ⟨m1, a1, b1⟩ := c_prints (σ := σ) (yy := yy) (W := W) (s := 31) (by decide) hw (by rw [e]; omega)
  rw [e] at a1
  obtain ⟨m2, w2, a2, b2, c2⟩ := c_printsNumber (σ := σ) (yy := yy) (W := W) hn a1.2.2 (by omega)
  refine ⟨m2, w2, by omega, a1.tr b2, fun d hd => ?_⟩
  obtain ⟨d, rfl⟩ : ∃ k, d = k + 1 := ⟨d - 1, by omega⟩
  show zEv σ (d + 1) 1909 0 [some (.ref 137), some (.int (Int32.ofNat 3)), some (.int (Int32.ofNat n))] [] _ _ _
  refine zeP rfl rfl ?_
  refine zeSw (K := 3) rfl rfl rfl ?_
  refine zeP rfl rfl ?_
  refine zeS rfl rfl rfl ?_
  refine zeCF rfl rfl rfl rfl rfl rfl b1 (by omega) ?_
  dsimp only [Option.toList, List.cons_append, List.nil_append]
  refine zeP rfl rfl ?_
  refine zeP rfl rfl ?_
  refine zeKn (c := 7) rfl rfl rfl ?_
  refine zeF2 rfl rfl (show zc2 .eq (Int32.ofNat 3) (Int32.ofNat 7) = false by decide) ?_
  refine zeP rfl rfl ?_
  refine zeP rfl rfl ?_
  refine zeCF rfl rfl rfl rfl rfl rfl c2 (by omega) ?_
  dsimp only [Option.toList, List.cons_append, List.nil_append]
  exact zeRe rfl rfl rfl rfl rfl rfl
theorem c_pd4 {n w : Nat} {m : Nat → Nat → Int32} (hn : n < 1000) (hw : m 137 16 = Int32.ofNat w) (h4 : w + 8 ≤ 400) : ∃ m' w', w' ≤ w + 8 ∧ PT m m' w' ∧ zF σ 4 1909 [.ref 137, .int (Int32.ofNat 4), .int (Int32.ofNat n)] (zS1, zrow m 138 W, yy) (.inl none) (zS1, zrow m' 138 W, yy) := by
  have e : (zby 32).length = 4 := rfl
  obtain ⟨m1, a1, b1⟩ := c_prints (σ := σ) (yy := yy) (W := W) (s := 32) (by decide) hw (by rw [e]; omega)
  rw [e] at a1
  obtain ⟨m2, w2, a2, b2, c2⟩ := c_printsNumber (σ := σ) (yy := yy) (W := W) hn a1.2.2 (by omega)
  refine ⟨m2, w2, by omega, a1.tr b2, fun d hd => ?_⟩
  obtain ⟨d, rfl⟩ : ∃ k, d = k + 1 := ⟨d - 1, by omega⟩
  show zEv σ (d + 1) 1909 0 [some (.ref 137), some (.int (Int32.ofNat 4)), some (.int (Int32.ofNat n))] [] _ _ _
  refine zeP rfl rfl ?_
  refine zeSw (K := 4) rfl rfl rfl ?_
  refine zeP rfl rfl ?_
  refine zeS rfl rfl rfl ?_
  refine zeCF rfl rfl rfl rfl rfl rfl b1 (by omega) ?_
  dsimp only [Option.toList, List.cons_append, List.nil_append]
  refine zeP rfl rfl ?_
  refine zeP rfl rfl ?_
  refine zeKn (c := 7) rfl rfl rfl ?_
  refine zeF2 rfl rfl (show zc2 .eq (Int32.ofNat 4) (Int32.ofNat 7) = false by decide) ?_
  refine zeP rfl rfl ?_
  refine zeP rfl rfl ?_
  refine zeCF rfl rfl rfl rfl rfl rfl c2 (by omega) ?_
  dsimp only [Option.toList, List.cons_append, List.nil_append]
  exact zeRe rfl rfl rfl rfl rfl rfl
theorem c_pd5 {n w : Nat} {m : Nat → Nat → Int32} (hn : n < 1000) (hw : m 137 16 = Int32.ofNat w) (h4 : w + 8 ≤ 400) : ∃ m' w', w' ≤ w + 8 ∧ PT m m' w' ∧ zF σ 4 1909 [.ref 137, .int (Int32.ofNat 5), .int (Int32.ofNat n)] (zS1, zrow m 138 W, yy) (.inl none) (zS1, zrow m' 138 W, yy) := by
  have e : (zby 33).length = 5 := rfl
  obtain ⟨m1, a1, b1⟩ := c_prints (σ := σ) (yy := yy) (W := W) (s := 33) (by decide) hw (by rw [e]; omega)
  rw [e] at a1
  obtain ⟨m2, w2, a2, b2, c2⟩ := c_printsNumber (σ := σ) (yy := yy) (W := W) hn a1.2.2 (by omega)
  refine ⟨m2, w2, by omega, a1.tr b2, fun d hd => ?_⟩
  obtain ⟨d, rfl⟩ : ∃ k, d = k + 1 := ⟨d - 1, by omega⟩
  show zEv σ (d + 1) 1909 0 [some (.ref 137), some (.int (Int32.ofNat 5)), some (.int (Int32.ofNat n))] [] _ _ _
  refine zeP rfl rfl ?_
  refine zeSw (K := 5) rfl rfl rfl ?_
  refine zeP rfl rfl ?_
  refine zeS rfl rfl rfl ?_
  refine zeCF rfl rfl rfl rfl rfl rfl b1 (by omega) ?_
  dsimp only [Option.toList, List.cons_append, List.nil_append]
  refine zeP rfl rfl ?_
  refine zeP rfl rfl ?_
  refine zeKn (c := 7) rfl rfl rfl ?_
  refine zeF2 rfl rfl (show zc2 .eq (Int32.ofNat 5) (Int32.ofNat 7) = false by decide) ?_
  refine zeP rfl rfl ?_
  refine zeP rfl rfl ?_
  refine zeCF rfl rfl rfl rfl rfl rfl c2 (by omega) ?_
  dsimp only [Option.toList, List.cons_append, List.nil_append]
  exact zeRe rfl rfl rfl rfl rfl rfl
theorem c_pd6 {n w : Nat} {m : Nat → Nat → Int32} (hn : n < 1000) (hw : m 137 16 = Int32.ofNat w) (h4 : w + 8 ≤ 400) : ∃ m' w', w' ≤ w + 8 ∧ PT m m' w' ∧ zF σ 4 1909 [.ref 137, .int (Int32.ofNat 6), .int (Int32.ofNat n)] (zS1, zrow m 138 W, yy) (.inl none) (zS1, zrow m' 138 W, yy) := by
  have e : (zby 34).length = 5 := rfl
  obtain ⟨m1, a1, b1⟩ := c_prints (σ := σ) (yy := yy) (W := W) (s := 34) (by decide) hw (by rw [e]; omega)
  rw [e] at a1
  obtain ⟨m2, w2, a2, b2, c2⟩ := c_printsNumber (σ := σ) (yy := yy) (W := W) hn a1.2.2 (by omega)
  refine ⟨m2, w2, by omega, a1.tr b2, fun d hd => ?_⟩
  obtain ⟨d, rfl⟩ : ∃ k, d = k + 1 := ⟨d - 1, by omega⟩
  show zEv σ (d + 1) 1909 0 [some (.ref 137), some (.int (Int32.ofNat 6)), some (.int (Int32.ofNat n))] [] _ _ _
  refine zeP rfl rfl ?_
  refine zeSw (K := 6) rfl rfl rfl ?_
  refine zeP rfl rfl ?_
  refine zeS rfl rfl rfl ?_
  refine zeCF rfl rfl rfl rfl rfl rfl b1 (by omega) ?_
  dsimp only [Option.toList, List.cons_append, List.nil_append]
  refine zeP rfl rfl ?_
  refine zeP rfl rfl ?_
  refine zeKn (c := 7) rfl rfl rfl ?_
  refine zeF2 rfl rfl (show zc2 .eq (Int32.ofNat 6) (Int32.ofNat 7) = false by decide) ?_
  refine zeP rfl rfl ?_
  refine zeP rfl rfl ?_
  refine zeCF rfl rfl rfl rfl rfl rfl c2 (by omega) ?_
  dsimp only [Option.toList, List.cons_append, List.nil_append]
  exact zeRe rfl rfl rfl rfl rfl rfl
theorem c_pd7 {n w : Nat} {m : Nat → Nat → Int32} (hn : n < 1000) (hw : m 137 16 = Int32.ofNat w) (h4 : w + 8 ≤ 400) : ∃ m' w', w' ≤ w + 8 ∧ PT m m' w' ∧ zF σ 4 1909 [.ref 137, .int (Int32.ofNat 7), .int (Int32.ofNat n)] (zS1, zrow m 138 W, yy) (.inl none) (zS1, zrow m' 138 W, yy) := by
  have e : (zby 12).length = 3 := rfl
  obtain ⟨m1, a1, b1⟩ := c_prints (σ := σ) (yy := yy) (W := W) (s := 12) (by decide) hw (by rw [e]; omega)
  rw [e] at a1
  refine ⟨m1, w + 3, by omega, a1, fun d hd => ?_⟩
  obtain ⟨d, rfl⟩ : ∃ k, d = k + 1 := ⟨d - 1, by omega⟩
  show zEv σ (d + 1) 1909 0 [some (.ref 137), some (.int (Int32.ofNat 7)), some (.int (Int32.ofNat n))] [] _ _ _
  refine zeP rfl rfl ?_
  refine zeSw (K := 7) rfl rfl rfl ?_
  refine zeP rfl rfl ?_
  refine zeS rfl rfl rfl ?_
  refine zeCF rfl rfl rfl rfl rfl rfl b1 (by omega) ?_
  dsimp only [Option.toList, List.cons_append, List.nil_append]
  refine zeP rfl rfl ?_
  refine zeKn (c := 7) rfl rfl rfl ?_
  refine zeT2 rfl rfl (show zc2 .eq (Int32.ofNat 7) (Int32.ofNat 7) = true by decide) ?_
  exact zeRe rfl rfl rfl rfl rfl rfl
theorem c_printsDeed {K n w : Nat} {m : Nat → Nat → Int32} (hK : K ≤ 7) (hn : n < 1000) (hw : m 137 16 = Int32.ofNat w) (h4 : w + 8 ≤ 400) : ∃ m' w', w' ≤ w + 8 ∧ PT m m' w' ∧ zF σ 4 1909 [.ref 137, .int (Int32.ofNat K), .int (Int32.ofNat n)] (zS1, zrow m 138 W, yy) (.inl none) (zS1, zrow m' 138 W, yy) := by
  match K, hK with
  | 0, _ => exact c_pd0 hn hw h4
  | 1, _ => exact c_pd1 hn hw h4
  | 2, _ => exact c_pd2 hn hw h4
  | 3, _ => exact c_pd3 hn hw h4
  | 4, _ => exact c_pd4 hn hw h4
  | 5, _ => exact c_pd5 hn hw h4
  | 6, _ => exact c_pd6 hn hw h4
  | 7, _ => exact c_pd7 hn hw h4
  | k + 8, h => exact absurd h (by omega)
theorem w_text {t : Nat} (hW : WG W) (ht : t < 4) : ∀ (n p w : Nat) (m : Nat → Nat → Int32), p + n = nv W (376 + 103 * t + 22) → m 137 16 = Int32.ofNat w → w ≤ 7 + 10 * p → ∃ m' w', w' ≤ 400 ∧ PT m m' w' ∧ ∀ d, 5 ≤ d + 1 → zEv σ (d + 1) 1910 24 [some (.ref 137), some (.int (Int32.ofNat t)), some (.int (Int32.ofNat p))] [] (zS1, zrow m 138 W, yy) (.inl (some (.int (Int32.ofNat w')))) (zS1, zrow m' 138 W, yy) := by
  have h24 := (hW.2 t ht).2.2.2.1.2.2
  have hLe : q_of W t 22 = Int32.ofNat (nv W (376 + 103 * t + 22)) := (hW.2 t ht).2.2.2.1.1
  intro n
  induction n with
  | zero =>
    intro p w m hk hw h7
    refine ⟨m, w, by omega, ⟨fun _ _ _ => rfl, fun _ _ => rfl, hw⟩, fun d hd => ?_⟩
    refine zeP rfl rfl ?_
    refine zeP rfl rfl ?_
    refine zeP rfl rfl ?_
    refine zeKn (c := 22) rfl rfl rfl ?_
    refine zeCF rfl rfl rfl rfl rfl rfl (c_of (m := m) (W := W) (t := t) (k := 22) (by omega)) (by omega) ?_
    dsimp only [Option.toList, List.cons_append, List.nil_append]
    rw [hLe]
    refine zeT2 rfl rfl (zcge (by omega) (by omega) (by omega)) ?_
    refine zeP rfl rfl ?_
    refine zeFI rfl rfl rfl rfl ?_
    rw [hw]
    exact zeRe rfl rfl rfl rfl rfl rfl
  | succ n ih =>
    intro p w m hk hw h7
    have hD := hW.D ht (p := p) (by omega)
    have hN9 := ((hW.2 t ht).2.2.2.2.2.2.2 p (by omega)).2.1.2.2
    have e36 : (zby 36).length = 2 := rfl
    have hsep : ∃ m1 w1, w1 ≤ 7 + 10 * p + 2 ∧ PT m m1 w1 ∧ ∀ d, 5 ≤ d + 1 → ∀ {o M'}, zEv σ (d + 1) 1910 46 [some (.ref 137), some (.int (Int32.ofNat t)), some (.int (Int32.ofNat p))] [] (zS1, zrow m1 138 W, yy) o M' → zEv σ (d + 1) 1910 35 [some (.ref 137), some (.int (Int32.ofNat t)), some (.int (Int32.ofNat p))] [] (zS1, zrow m 138 W, yy) o M' := by
      by_cases hp : p = 0
      · refine ⟨m, w, by omega, ⟨fun _ _ _ => rfl, fun _ _ => rfl, hw⟩, fun d hd o M' k => ?_⟩
        subst hp
        refine zeP rfl rfl ?_
        exact zeT1 rfl rfl (show zc1 .le (Int32.ofNat 0) = true by decide) k
      · obtain ⟨m1, a1, b1⟩ := c_prints (σ := σ) (yy := yy) (W := W) (s := 36) (by decide) hw (by rw [e36]; omega)
        rw [e36] at a1
        refine ⟨m1, w + 2, by omega, a1, fun d hd o M' k => ?_⟩
        refine zeP rfl rfl ?_
        refine zeF1 rfl rfl (show zc1 .le (Int32.ofNat p) = false from ?_) ?_
        · apply decide_eq_false
          rw [Int32.le_iff_toInt_le, zoN (by omega), Int32.toInt_zero]
          omega
        refine zeP rfl rfl ?_
        refine zeS rfl rfl rfl ?_
        refine zeCF rfl rfl rfl rfl rfl rfl b1 (by omega) ?_
        exact k
    obtain ⟨m1, w1, s1, s2, s3⟩ := hsep
    obtain ⟨m2, w2, r1, r2, r3⟩ := c_printsDeed (σ := σ) (yy := yy) (W := W) (K := nv W (376 + 103 * t + (55 + 2 * p))) (n := nv W (376 + 103 * t + (55 + 2 * p + 1))) hD.1 (by omega) s2.2.2 (by omega)
    obtain ⟨m3, w3, g1, g2, g3⟩ := ih (p + 1) w2 m2 (by omega) r2.2.2 (by omega)
    refine ⟨m3, w3, g1, (s2.tr r2).tr g2, fun d hd => ?_⟩
    refine zeP rfl rfl ?_
    refine zeP rfl rfl ?_
    refine zeP rfl rfl ?_
    refine zeKn (c := 22) rfl rfl rfl ?_
    refine zeCF rfl rfl rfl rfl rfl rfl (c_of (m := m) (W := W) (t := t) (k := 22) (by omega)) (by omega) ?_
    dsimp only [Option.toList, List.cons_append, List.nil_append]
    rw [hLe]
    refine zeF2 rfl rfl (zcge_f (by omega) (by omega) (by omega)) ?_
    refine s3 d hd ?_
    refine zeP rfl rfl ?_
    refine zeP rfl rfl ?_
    refine zeP rfl rfl ?_
    refine zeP rfl rfl ?_
    refine zeKn (c := 0) rfl rfl rfl ?_
    refine zeCF rfl rfl rfl rfl rfl rfl (c_deedOf (m := m1) (W := W) (t := t) (p := p) (k := 0) (by omega)) (by omega) ?_
    dsimp only [Option.toList, List.cons_append, List.nil_append]
    rw [deedOf0 hW ht (by omega)]
    refine zeP rfl rfl ?_
    refine zeP rfl rfl ?_
    refine zeP rfl rfl ?_
    refine zeKn (c := 1) rfl rfl rfl ?_
    refine zeCF rfl rfl rfl rfl rfl rfl (c_deedOf (m := m1) (W := W) (t := t) (p := p) (k := 1) (by omega)) (by omega) ?_
    dsimp only [Option.toList, List.cons_append, List.nil_append]
    rw [deedOf1 hW ht (by omega)]
    refine zeCF rfl rfl rfl rfl rfl rfl r3 (by omega) ?_
    dsimp only [Option.toList, List.cons_append, List.nil_append]
    refine zeInc rfl rfl ?_
    refine zeP rfl rfl ?_
    exact g3 d hd
/-- what text leaves alone -/
noncomputable def TF (m m' : Nat → Nat → Int32) : Prop := (∀ i, i ≠ 137 → i ≠ 145 → m' i = m i) ∧ (∀ k, k ≠ 0 → k ≠ 16 → m' 137 k = m 137 k) ∧ ∃ w, w ≤ 400 ∧ m' 137 16 = Int32.ofNat w
theorem c_text {t : Int32} {w0 : Nat} {m : Nat → Nat → Int32} (hW : WG W) (hw0 : m 137 16 = Int32.ofNat w0) (h0 : w0 ≤ 400) : ∃ v m', TF m m' ∧ zF σ 6 1910 [.ref 137, .int t] (zS1, zrow m 138 W, yy) (.inl (some (.int v))) (zS1, zrow m' 138 W, yy) := by
  cases hi : zc1 .ne (q_in t (Int32.ofNat 0) (q_threads W - Int32.ofNat 1)) with
  | false =>
    have e : (q_noThread m W t).1 = Int32.ofNat 1 := by unfold q_noThread; rw [hi]; rfl
    have e2 : (q_noThread m W t).2 = (q_thr1 (zm2 m 137 0 (Int32.ofNat 0)) 1).2 := by unfold q_noThread; rw [hi]; rfl
    refine ⟨Int32.ofNat 0, (q_noThread m W t).2, ?_, fun d hd => ?_⟩
    · rw [e2]
      refine ⟨fun i h1 h2 => ?_, fun k h1 h2 => ?_, w0, h0, ?_⟩
      · show zm2 (zm2 m 137 0 _) 137 0 _ i = _
        rw [zm2_i _ _ h1, zm2_i _ _ h1]
      · show zm2 (zm2 m 137 0 _) 137 0 _ 137 k = _
        rw [zm2_k _ _ h1, zm2_k _ _ h1]
      · show zm2 (zm2 m 137 0 (Int32.ofNat 0)) 137 0 (Int32.ofNat 1) 137 16 = Int32.ofNat w0
        rw [zm2_k _ _ (by decide), zm2_k _ _ (by decide)]
        exact hw0
    · obtain ⟨d, rfl⟩ : ∃ k, d = k + 1 := ⟨d - 1, by omega⟩
      show zEv σ (d + 1) 1910 0 [some (.ref 137), some (.int t), none] [] _ _ _
      refine zeP rfl rfl ?_
      refine zeP rfl rfl ?_
      refine zeCF rfl rfl rfl rfl rfl rfl (c_noThread (m := m) (W := W) (t := t)) (by omega) ?_
      dsimp only [Option.toList, List.cons_append, List.nil_append]
      rw [e]
      refine zeF1 rfl rfl (show zc1 .eq (Int32.ofNat 1) = false by decide) ?_
      refine zeKn (c := 0) rfl rfl rfl ?_
      exact zeRe rfl rfl rfl rfl rfl rfl
  | true =>
    obtain ⟨ht1, ht2⟩ := in_N hW.N hW.N4 hi
    have h4 := hW.N4
    have e : (q_noThread m W t).1 = Int32.ofNat 0 := by unfold q_noThread; rw [hi]; rfl
    have e2 : (q_noThread m W t).2 = zm2 m 137 0 (Int32.ofNat 0) := by unfold q_noThread; rw [hi]; rfl
    have e35 : (zby 35).length = 7 := rfl
    obtain ⟨m1, a1, b1⟩ := c_prints (σ := σ) (yy := yy) (W := W) (s := 35) (w := 0) (m := zm2 (zm2 m 137 0 (Int32.ofNat 0)) 137 16 (Int32.ofNat 0)) (by decide) (zm2_a _ _ _ _) (by rw [e35]; omega)
    rw [e35] at a1
    obtain ⟨m2, w2, g1, g2, g3⟩ := w_text (σ := σ) (yy := yy) hW (show t.toNatClampNeg < 4 by omega) (nv W (376 + 103 * t.toNatClampNeg + 22)) 0 7 m1 (by omega) a1.2.2 (by omega)
    rw [← ht1] at g3
    have hp := a1.tr g2
    refine ⟨Int32.ofNat w2, m2, ⟨fun i h1 h2 => ?_, fun k h1 h2 => ?_, w2, g1, hp.2.2⟩, fun d hd => ?_⟩
    · rw [hp.1 i h1 h2, zm2_i _ _ h1, zm2_i _ _ h1]
    · rw [hp.2.1 k h2, zm2_k _ _ h2, zm2_k _ _ h1]
    · obtain ⟨d, rfl⟩ : ∃ k, d = k + 1 := ⟨d - 1, by omega⟩
      show zEv σ (d + 1) 1910 0 [some (.ref 137), some (.int t), none] [] _ _ _
      refine zeP rfl rfl ?_
      refine zeP rfl rfl ?_
      refine zeCF rfl rfl rfl rfl rfl rfl (c_noThread (m := m) (W := W) (t := t)) (by omega) ?_
      dsimp only [Option.toList, List.cons_append, List.nil_append]
      rw [e, e2]
      refine zeT1 rfl rfl (show zc1 .eq (Int32.ofNat 0) = true by decide) ?_
      refine zeP rfl rfl ?_
      refine zeKn (c := 0) rfl rfl rfl ?_
      refine zeFP rfl rfl rfl ?_
      refine zeP rfl rfl ?_
      refine zeS rfl rfl rfl ?_
      refine zeCF rfl rfl rfl rfl rfl rfl b1 (by omega) ?_
      dsimp only [Option.toList, List.cons_append, List.nil_append]
      refine zeKn (c := 0) rfl rfl rfl ?_
      refine zeP rfl rfl ?_
      exact g3 d (by omega)
end ZTX
