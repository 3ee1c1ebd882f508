/-! the class's Writer: it comes back, and keeps to its own -/
def WF (m m' : Nat → Nat → Int32) : Prop := (∀ i l, i ≠ 129 → i ≠ 130 → m' i l = m i l) ∧ okm m' 129 1 400
theorem WF.rf {m : Nat → Nat → Int32} (h : okm m 129 1 400) : WF m m := ⟨fun _ _ _ _ => rfl, h⟩
theorem WF.tr {a b c : Nat → Nat → Int32} (h : WF a b) (g : WF b c) : WF a c := ⟨fun i l h1 h2 => (g.1 i l h1 h2).trans (h.1 i l h1 h2), g.2⟩
section ZWR
variable {σ : Nat → Nat × (Nat → Int32)} {yy : (Nat → Nat → Int64) × Bool × Nat × Nat} {m : Nat → Nat → Int32}
theorem wc_putByte (hw : okm m 129 1 400) (x : Int32) : ∃ m', WF m m' ∧ zF σ 1 1403 [.ref 129, .int x] (zS1, m, yy) (.inl none) (zS1, m', yy) := by
  cases hg : zc2 .ge (Int32.ofNat (mv m 129 1)) (Int32.ofNat 400) with
  | true =>
    refine ⟨m, WF.rf hw, fun d hd => ?_⟩
    obtain ⟨d, rfl⟩ : ∃ k, d = k + 1 := ⟨d - 1, by omega⟩
    show zEv σ (d + 1) 1403 0 [some (.ref 129), some (.int x)] [] _ _ _
    refine zeP rfl rfl ?_
    refine zeGI rfl rfl zS129 rfl rfl ?_
    rw [hw.1]
    refine zeKn (c := 400) rfl rfl rfl ?_
    refine zeT2 rfl rfl hg ?_
    exact zeRe rfl rfl rfl rfl rfl rfl
  | false =>
    have hlt : mv m 129 1 < 400 := zge_lt (by have := hw.2; omega) (by omega) hg
    refine ⟨zm2 (zm2 m 130 (mv m 129 1) (vp_nar .byte (x.toInt8.toInt32))) 129 1 (Int32.ofNat (mv m 129 1 + 1)), ⟨fun i l h1 h2 => ?_, okm.is (zx_at _ _ _ _) (by omega) (by omega)⟩, fun d hd => ?_⟩
    · rw [zx_ne _ _ _ h1, zx_ne _ _ _ h2]
    · obtain ⟨d, rfl⟩ : ∃ k, d = k + 1 := ⟨d - 1, by omega⟩
      show zEv σ (d + 1) 1403 0 [some (.ref 129), some (.int x)] [] _ _ _
      refine zeP rfl rfl ?_
      refine zeGI rfl rfl zS129 rfl rfl ?_
      rw [hw.1]
      refine zeKn (c := 400) rfl rfl rfl ?_
      refine zeF2 rfl rfl hg ?_
      refine zeP rfl rfl ?_
      refine zeGR rfl rfl zS129 rfl rfl ?_
      refine zeP rfl rfl ?_
      refine zeGI rfl rfl zS129 rfl rfl ?_
      rw [hw.1]
      refine zeP rfl rfl ?_
      refine zeP rfl rfl ?_
      refine zeBS (k := mv m 129 1) rfl zS130 rfl hlt ?_
      refine zeP rfl rfl ?_
      refine zeP rfl rfl ?_
      refine zeGI rfl rfl zS129 rfl rfl ?_
      rw [zx_ne _ _ _ (show (129 : Nat) ≠ 130 by decide), hw.1]
      refine zeKn (c := 1) rfl rfl rfl ?_
      refine zeAdd rfl ?_
      refine zePI rfl rfl zS129 rfl ?_
      exact zeRe rfl rfl rfl rfl rfl rfl
theorem ww_name {s : Nat} {k : Int32} (hs : s < 37) : ∀ (n c : Nat) (nm : Int32) (m : Nat → Nat → Int32), c + n = (zby s).length → okm m 129 1 400 → ∃ m', WF m m' ∧ ∀ d, 1 ≤ d → zEv σ (d + 1) 1404 5 [some (.ref 129), some (.ref (1100 + s)), some (.int k), some (.int nm), some (.int (Int32.ofNat c))] [] (zS1, m, yy) (.inl none) (zS1, m', yy) := by
  have hl := zby_len s hs
  intro n
  induction n with
  | zero =>
    intro c nm m hc hw
    obtain ⟨m1, a1, b1⟩ := wc_putByte (σ := σ) (yy := yy) hw (Int32.ofNat 32)
    refine ⟨m1, a1, fun d hd => ?_⟩
    refine zeP rfl rfl ?_
    refine zeP rfl rfl ?_
    refine zeLn hs rfl rfl rfl rfl rfl ?_
    refine zeT2 rfl rfl (zcge (by omega) (by omega) (by omega)) ?_
    refine zeP rfl rfl ?_
    refine zeKn (c := 32) rfl rfl rfl ?_
    refine zeCV rfl rfl rfl rfl zS129 rfl b1 hd ?_
    dsimp only [Option.toList, List.cons_append, List.nil_append]
    exact zeRe rfl rfl rfl rfl rfl rfl
  | succ n ih =>
    intro c nm m hc hw
    cases h1 : zc2 .ne ((zby s).getD c 0) (Int32.ofNat 32) with
    | false =>
      obtain ⟨m2, a2, b2⟩ := ih (c + 1) (nm + Int32.ofInt 1) m (by omega) hw
      refine ⟨m2, a2, fun d hd => ?_⟩
      refine zeP rfl rfl ?_
      refine zeP rfl rfl ?_
      refine zeLn hs rfl rfl rfl rfl rfl ?_
      refine zeF2 rfl rfl (zcge_f (by omega) (by omega) (by omega)) ?_
      refine zeP rfl rfl ?_
      refine zeP rfl rfl ?_
      refine zeCh hs (by omega) rfl rfl rfl rfl rfl ?_
      refine zeKn (c := 32) rfl rfl rfl ?_
      refine zeF2 rfl rfl h1 ?_
      refine zeP rfl rfl ?_
      refine zeP rfl rfl ?_
      refine zeInc rfl rfl ?_
      refine zeP rfl rfl ?_
      exact b2 d hd
    | true =>
      cases h2 : zc2 .ne nm k with
      | true =>
        obtain ⟨m2, a2, b2⟩ := ih (c + 1) nm m (by omega) hw
        refine ⟨m2, a2, fun d hd => ?_⟩
        refine zeP rfl rfl ?_
        refine zeP rfl rfl ?_
        refine zeLn hs rfl rfl rfl rfl rfl ?_
        refine zeF2 rfl rfl (zcge_f (by omega) (by omega) (by omega)) ?_
        refine zeP rfl rfl ?_
        refine zeP rfl rfl ?_
        refine zeCh hs (by omega) rfl rfl rfl rfl rfl ?_
        refine zeKn (c := 32) rfl rfl rfl ?_
        refine zeT2 rfl rfl h1 ?_
        refine zeP rfl rfl ?_
        refine zeP rfl rfl ?_
        refine zeT2 rfl rfl h2 ?_
        refine zeInc rfl rfl ?_
        refine zeP rfl rfl ?_
        exact b2 d hd
      | false =>
        obtain ⟨m1, a1, b1⟩ := wc_putByte (σ := σ) (yy := yy) hw ((zby s).getD c 0)
        obtain ⟨m2, a2, b2⟩ := ih (c + 1) nm m1 (by omega) a1.2
        refine ⟨m2, a1.tr a2, fun d hd => ?_⟩
        refine zeP rfl rfl ?_
        refine zeP rfl rfl ?_
        refine zeLn hs rfl rfl rfl rfl rfl ?_
        refine zeF2 rfl rfl (zcge_f (by omega) (by omega) (by omega)) ?_
        refine zeP rfl rfl ?_
        refine zeP rfl rfl ?_
        refine zeCh hs (by omega) rfl rfl rfl rfl rfl ?_
        refine zeKn (c := 32) rfl rfl rfl ?_
        refine zeT2 rfl rfl h1 ?_
        refine zeP rfl rfl ?_
        refine zeP rfl rfl ?_
        refine zeF2 rfl rfl h2 ?_
        refine zeP rfl rfl ?_
        refine zeP rfl rfl ?_
        refine zeP rfl rfl ?_
        refine zeCh hs (by omega) rfl rfl rfl rfl rfl ?_
        refine zeCV rfl rfl rfl rfl zS129 rfl b1 hd ?_
        dsimp only [Option.toList, List.cons_append, List.nil_append]
        refine zeInc rfl rfl ?_
        refine zeP rfl rfl ?_
        exact b2 d hd
theorem wc_putName {s : Nat} (hs : s < 37) (hw : okm m 129 1 400) (k : Int32) : ∃ m', WF m m' ∧ zF σ 2 1404 [.ref 129, .ref (1100 + s), .int k] (zS1, m, yy) (.inl none) (zS1, m', yy) := by
  obtain ⟨m1, a1, b1⟩ := ww_name (σ := σ) (yy := yy) (k := k) hs (zby s).length 0 (Int32.ofNat 0) m (by omega) hw
  refine ⟨m1, a1, fun d hd => ?_⟩
  obtain ⟨d, rfl⟩ : ∃ k, d = k + 1 := ⟨d - 1, by omega⟩
  show zEv σ (d + 1) 1404 0 [some (.ref 129), some (.ref (1100 + s)), some (.int k), none, none] [] _ _ _
  refine zeKn (c := 0) rfl rfl rfl ?_
  refine zeP rfl rfl ?_
  refine zeKn (c := 0) rfl rfl rfl ?_
  refine zeP rfl rfl ?_
  exact b1 d (by omega)
theorem wn40 (hw : okm m 129 1 400) (v : Int32) : ∃ m', WF m m' ∧ ∀ d, 1 ≤ d → zEv σ (d + 1) 1405 40 [some (.ref 129), some (.int v)] [] (zS1, m, yy) (.inl none) (zS1, m', yy) := by
  obtain ⟨m1, a1, b1⟩ := wc_putByte (σ := σ) (yy := yy) hw (Int32.ofNat 48 + (v - v / Int32.ofNat 10 * Int32.ofNat 10))
  refine ⟨m1, a1, fun d hd => ?_⟩
  refine zeP rfl rfl ?_
  refine zeKn (c := 48) rfl rfl rfl ?_
  refine zeP rfl rfl ?_
  refine zeKn (c := 10) rfl rfl rfl ?_
  refine zeRem rfl (by decide) ?_
  refine zeP rfl rfl ?_
  refine zeCV rfl rfl rfl rfl zS129 rfl b1 hd ?_
  dsimp only [Option.toList, List.cons_append, List.nil_append]
  exact zeRe rfl rfl rfl rfl rfl rfl
theorem wn20 (hw : okm m 129 1 400) (v : Int32) : ∃ m', WF m m' ∧ ∀ d, 1 ≤ d → zEv σ (d + 1) 1405 20 [some (.ref 129), some (.int v)] [] (zS1, m, yy) (.inl none) (zS1, m', yy) := by
  cases h1 : zc2 .lt v (Int32.ofNat 10) with
  | true =>
    obtain ⟨m2, a2, b2⟩ := wn40 (σ := σ) (yy := yy) hw v
    refine ⟨m2, a2, fun d hd => ?_⟩
    refine zeP rfl rfl ?_
    refine zeKn (c := 10) rfl rfl rfl ?_
    refine zeT2 rfl rfl h1 ?_
    exact b2 d hd
  | false =>
    obtain ⟨m1, a1, b1⟩ := wc_putByte (σ := σ) (yy := yy) hw (Int32.ofNat 48 + (v / Int32.ofNat 10 - v / Int32.ofNat 10 / Int32.ofNat 10 * Int32.ofNat 10))
    obtain ⟨m2, a2, b2⟩ := wn40 (σ := σ) (yy := yy) a1.2 v
    refine ⟨m2, a1.tr a2, fun d hd => ?_⟩
    refine zeP rfl rfl ?_
    refine zeKn (c := 10) rfl rfl rfl ?_
    refine zeF2 rfl rfl h1 ?_
    refine zeP rfl rfl ?_
    refine zeKn (c := 48) rfl rfl rfl ?_
    refine zeP rfl rfl ?_
    refine zeKn (c := 10) rfl rfl rfl ?_
    refine zeDiv rfl (by decide) ?_
    refine zeKn (c := 10) rfl rfl rfl ?_
    refine zeRem rfl (by decide) ?_
    refine zeP rfl rfl ?_
    refine zeCV rfl rfl rfl rfl zS129 rfl b1 hd ?_
    dsimp only [Option.toList, List.cons_append, List.nil_append]
    exact b2 d hd
theorem wc_putNumber (hw : okm m 129 1 400) (v : Int32) : ∃ m', WF m m' ∧ zF σ 2 1405 [.ref 129, .int v] (zS1, m, yy) (.inl none) (zS1, m', yy) := by
  cases h1 : zc2 .lt v (Int32.ofNat 100) with
  | true =>
    obtain ⟨m2, a2, b2⟩ := wn20 (σ := σ) (yy := yy) hw v
    refine ⟨m2, a2, fun d hd => ?_⟩
    obtain ⟨d, rfl⟩ : ∃ k, d = k + 1 := ⟨d - 1, by omega⟩
    show zEv σ (d + 1) 1405 0 [some (.ref 129), some (.int v)] [] _ _ _
    refine zeP rfl rfl ?_
    refine zeKn (c := 100) rfl rfl rfl ?_
    refine zeT2 rfl rfl h1 ?_
    exact b2 d (by omega)
  | false =>
    obtain ⟨m1, a1, b1⟩ := wc_putByte (σ := σ) (yy := yy) hw (Int32.ofNat 48 + (v / Int32.ofNat 100 - v / Int32.ofNat 100 / Int32.ofNat 10 * Int32.ofNat 10))
    obtain ⟨m2, a2, b2⟩ := wn20 (σ := σ) (yy := yy) a1.2 v
    refine ⟨m2, a1.tr a2, fun d hd => ?_⟩
    obtain ⟨d, rfl⟩ : ∃ k, d = k + 1 := ⟨d - 1, by omega⟩
    show zEv σ (d + 1) 1405 0 [some (.ref 129), some (.int v)] [] _ _ _
    refine zeP rfl rfl ?_
    refine zeKn (c := 100) rfl rfl rfl ?_
    refine zeF2 rfl rfl h1 ?_
    refine zeP rfl rfl ?_
    refine zeKn (c := 48) rfl rfl rfl ?_
    refine zeP rfl rfl ?_
    refine zeKn (c := 100) rfl rfl rfl ?_
    refine zeDiv rfl (by decide) ?_
    refine zeKn (c := 10) rfl rfl rfl ?_
    refine zeRem rfl (by decide) ?_
    refine zeP rfl rfl ?_
    refine zeCV rfl rfl rfl rfl zS129 rfl b1 (by omega) ?_
    dsimp only [Option.toList, List.cons_append, List.nil_append]
    exact b2 d (by omega)
/-- between two deeds: a comma and a blank, but before the first -/
theorem ww22 {t k : Nat} (hw : okm m 129 1 400) (hk : k < 24) : ∃ m', WF m m' ∧ ∀ d, 2 ≤ d → ∀ o M', zEv σ (d + 1) 1401 38 [some (.ref 129), some (.ref (1 + 10 + 7 * t)), some (.int (Int32.ofNat k))] [] (zS1, m', yy) o M' → zEv σ (d + 1) 1401 22 [some (.ref 129), some (.ref (1 + 10 + 7 * t)), some (.int (Int32.ofNat k))] [] (zS1, m, yy) o M' := by
  cases h1 : zc1 .le (Int32.ofNat k) with
  | true =>
    refine ⟨m, WF.rf hw, fun d hd o M' kk => ?_⟩
    refine zeP rfl rfl ?_
    refine zeT1 rfl rfl h1 ?_
    exact kk
  | false =>
    obtain ⟨m1, a1, b1⟩ := wc_putByte (σ := σ) (yy := yy) hw (Int32.ofNat 44)
    obtain ⟨m2, a2, b2⟩ := wc_putByte (σ := σ) (yy := yy) a1.2 (Int32.ofNat 32)
    refine ⟨m2, a1.tr a2, fun d hd o M' kk => ?_⟩
    refine zeP rfl rfl ?_
    refine zeF1 rfl rfl h1 ?_
    refine zeP rfl rfl ?_
    refine zeKn (c := 44) rfl rfl rfl ?_
    refine zeCV rfl rfl rfl rfl zS129 rfl b1 (by omega) ?_
    dsimp only [Option.toList, List.cons_append, List.nil_append]
    refine zeP rfl rfl ?_
    refine zeKn (c := 32) rfl rfl rfl ?_
    refine zeCV rfl rfl rfl rfl zS129 rfl b2 (by omega) ?_
    dsimp only [Option.toList, List.cons_append, List.nil_append]
    exact kk
theorem ww_write {t D : Nat} (ht : t < 4) (hD : D ≤ 24) : ∀ (n k : Nat) (m : Nat → Nat → Int32), k + n = D → m (1 + 10 + 7 * t) 2 = Int32.ofNat D → okm m 129 1 400 → ∃ v m', WF m m' ∧ ∀ d, 2 ≤ d → zEv σ (d + 1) 1401 14 [some (.ref 129), some (.ref (1 + 10 + 7 * t)), some (.int (Int32.ofNat k))] [] (zS1, m, yy) (.inl (some (.int v))) (zS1, m', yy) := by
  intro n
  induction n with
  | zero =>
    intro k m hk h2 hw
    refine ⟨m 129 1, m, WF.rf hw, fun d hd => ?_⟩
    refine zeP rfl rfl ?_
    refine zeP rfl rfl ?_
    refine zeGI rfl rfl (shS bb1 ht) rfl rfl ?_
    rw [h2]
    refine zeT2 rfl rfl (zcge (by omega) (by omega) (by omega)) ?_
    refine zeP rfl rfl ?_
    refine zeGI rfl rfl zS129 rfl rfl ?_
    exact zeRe rfl rfl rfl rfl rfl rfl
  | succ n ih =>
    intro k m hk h2 hw
    obtain ⟨m1, a1, b1⟩ := ww22 (σ := σ) (yy := yy) (t := t) (k := k) hw (by omega)
    obtain ⟨m2, a2, b2⟩ := wc_putName (σ := σ) (yy := yy) (s := 4) (by omega) a1.2 (x_kindAt m1 1 t k)
    have key : ∃ m3, WF m2 m3 ∧ ∀ d, 2 ≤ d → ∀ o M', zEv σ (d + 1) 1401 68 [some (.ref 129), some (.ref (1 + 10 + 7 * t)), some (.int (Int32.ofNat k))] [] (zS1, m3, yy) o M' → zEv σ (d + 1) 1401 49 [some (.ref 129), some (.ref (1 + 10 + 7 * t)), some (.int (Int32.ofNat k))] [] (zS1, m2, yy) o M' := by
      cases h7 : zc2 .eq (x_kindAt m2 1 t k) (Int32.ofNat 7) with
      | true =>
        refine ⟨m2, WF.rf a2.2, fun d hd o M' kk => ?_⟩
        refine zeP rfl rfl ?_
        refine zeP rfl rfl ?_
        refine zeCV rfl rfl rfl rfl (shS bb1 ht) rfl (xc_kindAt (m := m2) (b := 1) (t := t) (p := k) bb1 ht (by omega)) (by omega) ?_
        dsimp only [Option.toList, List.cons_append, List.nil_append]
        refine zeKn (c := 7) rfl rfl rfl ?_
        refine zeT2 rfl rfl h7 ?_
        exact kk
      | false =>
        obtain ⟨m3, a3, b3⟩ := wc_putNumber (σ := σ) (yy := yy) a2.2 (x_numberAt m2 1 t k)
        refine ⟨m3, a3, fun d hd o M' kk => ?_⟩
        refine zeP rfl rfl ?_
        refine zeP rfl rfl ?_
        refine zeCV rfl rfl rfl rfl (shS bb1 ht) rfl (xc_kindAt (m := m2) (b := 1) (t := t) (p := k) bb1 ht (by omega)) (by omega) ?_
        dsimp only [Option.toList, List.cons_append, List.nil_append]
        refine zeKn (c := 7) rfl rfl rfl ?_
        refine zeF2 rfl rfl h7 ?_
        refine zeP rfl rfl ?_
        refine zeP rfl rfl ?_
        refine zeP rfl rfl ?_
        refine zeCV rfl rfl rfl rfl (shS bb1 ht) rfl (xc_numberAt (m := m2) (b := 1) (t := t) (p := k) bb1 ht (by omega)) (by omega) ?_
        dsimp only [Option.toList, List.cons_append, List.nil_append]
        refine zeCV rfl rfl rfl rfl zS129 rfl b3 hd ?_
        dsimp only [Option.toList, List.cons_append, List.nil_append]
        exact kk
    obtain ⟨m3, a3, b3⟩ := key
    have aA := (a1.tr a2).tr a3
    obtain ⟨v, m4, a4, b4⟩ := ih (k + 1) m3 (by omega) ((aA.1 _ _ (by omega) (by omega)).trans h2) a3.2
    refine ⟨v, m4, aA.tr a4, fun d hd => ?_⟩
    refine zeP rfl rfl ?_
    refine zeP rfl rfl ?_
    refine zeGI rfl rfl (shS bb1 ht) rfl rfl ?_
    rw [h2]
    refine zeF2 rfl rfl (zcge_f (by omega) (by omega) (by omega)) ?_
    refine b1 d hd _ _ ?_
    refine zeP rfl rfl ?_
    refine zeS rfl rfl rfl ?_
    refine zeP rfl rfl ?_
    refine zeP rfl rfl ?_
    refine zeCV rfl rfl rfl rfl (shS bb1 ht) rfl (xc_kindAt (m := m1) (b := 1) (t := t) (p := k) bb1 ht (by omega)) (by omega) ?_
    dsimp only [Option.toList, List.cons_append, List.nil_append]
    refine zeCV rfl rfl rfl rfl zS129 rfl b2 hd ?_
    dsimp only [Option.toList, List.cons_append, List.nil_append]
    refine b3 d hd _ _ ?_
    refine zeInc rfl rfl ?_
    refine zeP rfl rfl ?_
    exact b4 d hd
theorem wc_write {t : Nat} (ht : t < 4) (hD : DT m 1 t) (hw : okm m 129 1 400) : ∃ v m', WF m m' ∧ zF σ 3 1401 [.ref 129, .ref (1 + 10 + 7 * t)] (zS1, m, yy) (.inl (some (.int v))) (zS1, m', yy) := by
  have hw0 : okm (zm2 m 129 1 (Int32.ofNat 0)) 129 1 400 := okm.is (zx_at _ _ _ _) (by omega) (by omega)
  have f0 : ∀ i l, i ≠ 129 → i ≠ 130 → zm2 m 129 1 (Int32.ofNat 0) i l = m i l := fun i l h1 _ => zx_ne _ _ _ h1
  obtain ⟨m1, a1, b1⟩ := wc_putName (σ := σ) (yy := yy) (s := 3) (by omega) hw0 (Int32.ofNat 0)
  obtain ⟨v, m2, a2, b2⟩ := ww_write (σ := σ) (yy := yy) ht hD.1.2 (mv m (1 + 10 + 7 * t) 2) 0 m1 (by omega) ((a1.1 _ _ (by omega) (by omega)).trans ((f0 _ _ (by omega) (by omega)).trans hD.1.1)) a1.2
  refine ⟨v, m2, WF.tr ⟨f0, hw0⟩ (a1.tr a2), fun d hd => ?_⟩
  obtain ⟨d, rfl⟩ : ∃ k, d = k + 1 := ⟨d - 1, by omega⟩
  show zEv σ (d + 1) 1401 0 [some (.ref 129), some (.ref (1 + 10 + 7 * t)), none] [] _ _ _
  refine zeP rfl rfl ?_
  refine zeKn (c := 0) rfl rfl rfl ?_
  refine zePI rfl rfl zS129 rfl ?_
  refine zeP rfl rfl ?_
  refine zeS rfl rfl rfl ?_
  refine zeKn (c := 0) rfl rfl rfl ?_
  refine zeCV rfl rfl rfl rfl zS129 rfl b1 (by omega) ?_
  dsimp only [Option.toList, List.cons_append, List.nil_append]
  refine zeKn (c := 0) rfl rfl rfl ?_
  refine zeP rfl rfl ?_
  exact b2 d (by omega)
theorem ec_text {t : Int32} (hC : CG m 1) (hK : KX m 1 P0) (hw : okm m 129 1 400) : ∃ X m', WF m m' ∧ (∀ e0, X = .inr e0 → e0 = 0) ∧ zF σ 4 1633 [.ref 0, .int t] (zS1, m, yy) (xo X) (zS1, m', xy yy X) := by
  cases h : sOK m t with
  | false =>
    refine ⟨.inr 0, m, WF.rf hw, fun e0 q => (Sum.inr.inj q).symm, fun d hd => ?_⟩
    obtain ⟨d, rfl⟩ : ∃ k, d = k + 1 := ⟨d - 1, by omega⟩
    show zEv σ (d + 1) 1633 0 [some (.ref 0), some (.int t)] [] _ _ _
    refine zeP rfl rfl ?_
    refine zeGR rfl rfl zS00 rfl rfl ?_
    refine zeP rfl rfl ?_
    refine zeP rfl rfl ?_
    exact zeThX rfl rfl rfl rfl rfl rfl (xn_1638 (m := m) (x := t) h) (by omega) rfl rfl rfl rfl
  | true =>
    obtain ⟨g1, g2⟩ := xk_1638 hC h
    have h4 := hC.c4
    have t4 : t.toNatClampNeg < 4 := by omega
    obtain ⟨v, m1, a1, b1⟩ := wc_write (σ := σ) (yy := yy) t4 (hK.1 _ t4) hw
    refine ⟨.inl v, m1, a1, fun e0 q => (by cases q), fun d hd => ?_⟩
    obtain ⟨d, rfl⟩ : ∃ k, d = k + 1 := ⟨d - 1, by omega⟩
    show zEv σ (d + 1) 1633 0 [some (.ref 0), some (.int t)] [] _ _ _
    refine zeP rfl rfl ?_
    refine zeGR rfl rfl zS00 rfl rfl ?_
    refine zeP rfl rfl ?_
    refine zeP rfl rfl ?_
    refine zeCV rfl rfl rfl rfl zS00 rfl (xo_1638 (m := m) (x := t) h hC) (by omega) ?_
    dsimp only [Option.toList, List.cons_append, List.nil_append]
    refine zeCV rfl rfl rfl rfl zS129 rfl b1 (by omega) ?_
    dsimp only [Option.toList, List.cons_append, List.nil_append]
    exact zeRe rfl rfl rfl rfl rfl rfl
def e_octet (m : Nat → Nat → Int32) (k : Int32) : Int32 := (bif zc1 .lt k then (-1) else (bif zc2 .ge k (m 129 1) then (-1) else (bif zc2 .ge k (Int32.ofNat 400) then (-1) else (m 130 k.toNatClampNeg &&& Int32.ofNat 255))))
theorem wc_byteAt {k : Int32} : zF σ 1 1402 [.ref 129, .int k] (zS1, m, yy) (.inl (some (.int (e_octet m k)))) (zS1, m, yy) := by
  intro d hd
  obtain ⟨d, rfl⟩ : ∃ k, d = k + 1 := ⟨d - 1, by omega⟩
  show zEv σ (d + 1) 1402 0 [some (.ref 129), some (.int k)] [] _ _ _
  refine zeP rfl rfl ?_
  refine zeB1 rfl rfl (fun h1 => ?_) (fun h1 => ?_)
  · refine zeK (v := -1) rfl rfl rfl ?_
    exact zeRe rfl rfl rfl rfl (by simp only [e_octet, h1, cond_true, cond_false] <;> rfl) rfl
  · refine zeP rfl rfl ?_
    refine zeP rfl rfl ?_
    refine zeGI rfl rfl zS129 rfl rfl ?_
    refine zeB2 rfl rfl (fun h2 => ?_) (fun h2 => ?_)
    · refine zeK (v := -1) rfl rfl rfl ?_
      exact zeRe rfl rfl rfl rfl (by simp only [e_octet, h1, h2, cond_true, cond_false] <;> rfl) rfl
    · refine zeP rfl rfl ?_
      refine zeKn (c := 400) rfl rfl rfl ?_
      refine zeB2 rfl rfl (fun h3 => ?_) (fun h3 => ?_)
      · refine zeK (v := -1) rfl rfl rfl ?_
        exact zeRe rfl rfl rfl rfl (by simp only [e_octet, h1, h2, h3, cond_true, cond_false] <;> rfl) rfl
      · have ck := ige_of (x := k) (n := 400) (by omega) h1 h3
        refine zeP rfl rfl ?_
        refine zeGR rfl rfl zS129 rfl rfl ?_
        refine zeKn (c := k.toNatClampNeg) rfl rfl ck.1 ?_
        refine zeBL (k := k.toNatClampNeg) rfl zS130 rfl ck.2 ?_
        refine zeKn (c := 255) rfl rfl rfl ?_
        refine zeP rfl rfl ?_
        refine zeP rfl rfl ?_
        exact zeRe rfl rfl rfl rfl (by simp only [e_octet, h1, h2, h3, cond_true, cond_false] <;> rfl) rfl
theorem ec_octet {k : Int32} : zF σ 2 1634 [.ref 0, .int k] (zS1, m, yy) (.inl (some (.int (e_octet m k)))) (zS1, m, yy) := by
  intro d hd
  obtain ⟨d, rfl⟩ : ∃ k, d = k + 1 := ⟨d - 1, by omega⟩
  show zEv σ (d + 1) 1634 0 [some (.ref 0), some (.int k)] [] _ _ _
  refine zeP rfl rfl ?_
  refine zeGR rfl rfl zS00 rfl rfl ?_
  refine zeP rfl rfl ?_
  refine zeCV rfl rfl rfl rfl zS129 rfl wc_byteAt (by omega) ?_
  dsimp only [Option.toList, List.cons_append, List.nil_append]
  exact zeRe rfl rfl rfl rfl rfl rfl
end ZWR
