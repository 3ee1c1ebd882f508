/-! d7.ecls d8.ord d9.ord da.wr db.xi -/
section
/-! a text is read, and the machine told -/
noncomputable def xR0 (m : Nat → Nat → Int32) (e : Nat) : Nat → Nat → Int32 := zm2 (zm2 m 128 2 (Int32.ofNat e)) 128 3 (Int32.ofNat 0)
noncomputable def yRA (m : Nat → Nat → Int32) (e : Nat) : Int32 × (Nat → Nat → Int32) × Nat × Nat := y_readAll18 (m 127) e (xR0 m e) 0
noncomputable def x_readAll (m : Nat → Nat → Int32) (e : Nat) : Int32 × (Nat → Nat → Int32) := ((yRA m e).1, XP (yRA m e).2.1 (yRA m e).2.2.1 (yRA m e).2.2.2)
section ZRA
variable {m P : Nat → Nat → Int32} {e : Nat}
theorem xR0_ne {i l : Nat} (h : i ≠ 128) : xR0 m e i l = m i l := by
  unfold xR0
  rw [zx_ne _ _ _ h, zx_ne _ _ _ h]
theorem xR0_XR (he : e ≤ 400) : XR (xR0 m e) (m 127) e := by
  refine ⟨fun k hk => xR0_ne (by decide), ?_, he⟩
  unfold xR0
  rw [zx_nk _ _ (by decide), zx_at]
theorem xR0_self {b : Nat} (h4 : m 128 4 = Int32.ofNat b) : XP (xR0 m e) 0 b = xR0 m e := by
  refine XP_self ?_ ?_
  · unfold xR0
    rw [zx_at]
  · unfold xR0
    rw [zx_nk _ _ (by decide), zx_nk _ _ (by decide)]
    exact h4
theorem nlt400 (he : e ≤ 400) : ¬ Int32.ofNat 400 < Int32.ofNat e := by
  rw [Int32.lt_iff_toInt_lt, zoN (by omega), zoN (by omega)]
  omega
theorem xc_readAll {σ : Nat → Nat × (Nat → Int32)} {yy : (Nat → Nat → Int64) × Bool × Nat × Nat} {b : Nat} (hs : ZS σ) (h4 : m 128 4 = Int32.ofNat b) (he : e ≤ 400) (hc : CG m 43) (hk : KX m 43 P0) : zF σ 8 1001 [.ref 128, .int (Int32.ofNat e)] (zS1, m, yy) (.inl (some (.int (x_readAll m e).1))) (zS1, (x_readAll m e).2, yy) := by
  intro d hd
  obtain ⟨d, rfl⟩ : ∃ k, d = k + 1 := ⟨d - 1, by omega⟩
  have h := yp_readAll18 (σ := σ) (yy := yy) (m := xR0 m e) (p := 0) (b := b) (T := m 127) (e := e) (x := some (.int (Int32.ofNat e))) (d := d) (by omega) hs (xR0_XR he) (Nat.zero_le _) ((hc.far (by omega)).far (by omega)) ((hk.far (by omega)).far (by omega))
  rw [xR0_self h4] at h
  show zEv σ (d + 1) 1001 0 [some (.ref 128), some (.int (Int32.ofNat e)), none] [] _ _ _
  refine zeP rfl rfl ?_
  refine zeP rfl rfl ?_
  refine zeP rfl rfl ?_
  refine zeGR rfl rfl zS128 rfl rfl ?_
  refine zeS (pc' := 7) (st' := [.int (Int32.ofNat 400), .int (Int32.ofNat e), .ref 128]) (M1 := (zS1, m, yy)) rfl rfl rfl ?_
  refine zeM (pc' := 10) (st' := [.int (if Int32.ofNat 400 < Int32.ofNat e then Int32.ofNat 400 else Int32.ofNat e), .ref 128]) rfl rfl rfl rfl rfl rfl rfl ?_
  rw [if_neg (nlt400 he)]
  refine zePI rfl rfl zS128 rfl ?_
  refine zeP rfl rfl ?_
  refine zeKn (c := 0) rfl rfl rfl ?_
  refine zePI rfl rfl zS128 rfl ?_
  exact h
theorem yRA_ok (he : e ≤ 400) (hc : CG m 43) (hk : KX m 43 P0) : YA (m 127) e (xR0 m e) (yRA m e) := readAll_YA (xR0_XR he) (Nat.zero_le _) ((hc.far (by omega)).far (by omega)) ((hk.far (by omega)).far (by omega)) FB.refl
theorem readAll_ok (he : e ≤ 400) (hc : CG m 43) (hk : KX m 43 P0) : CG (x_readAll m e).2 43 ∧ KX (x_readAll m e).2 43 P0 ∧ (∀ i l, i ≠ 128 → i < 43 ∨ 85 ≤ i → (x_readAll m e).2 i l = m i l) ∧ (∃ b, b ≤ 400 ∧ (x_readAll m e).2 128 4 = Int32.ofNat b) := by
  obtain ⟨a1, a2, a3, a4, a5, a6⟩ := yRA_ok he hc hk
  have g : ∀ i, i ≠ 128 → (x_readAll m e).2 i = (yRA m e).2.1 i := fun i hi => XP_ne hi
  refine ⟨a2.same (fun i l hi => ?_), a3.same (fun i l hi => ?_), fun i l h1 h2 => ?_, (yRA m e).2.2.2, by omega, rfl⟩
  · rw [g i (by rcases hi with ⟨e, _⟩ | ⟨e, _⟩ | ⟨t, ht, ⟨e, _⟩ | e⟩ | ⟨l, hl, e, _⟩ <;> omega)]
  · rw [g i (by rcases hi with ⟨e, _⟩ | ⟨t, ht, ⟨e, _⟩ | ⟨e, _⟩ | e | e⟩ <;> omega)]
  · rw [g i h1, a4 i l (by omega), xR0_ne h1]
noncomputable def xM3 (m : Nat → Nat → Int32) (n : Nat) : Nat → Nat → Int32 := zm2 (zm2 (x_readAll (x_copyFrom m 43 1) n).2 0 6 (x_readAll (x_copyFrom m 43 1) n).1) 0 5 (Int32.ofNat 0)
theorem xM3_ok {n : Nat} (hC : CG m 1) (hK : KX m 1 P0) (hC2 : CG m 43) (hK2 : KX m 43 P0) (hn : n ≤ 400) : CG (xM3 m n) 43 ∧ KX (xM3 m n) 43 P0 ∧ (∀ i l, i ≠ 128 → (i ≠ 0 ∨ l = 3) → i < 43 ∨ 85 ≤ i → xM3 m n i l = m i l) ∧ ∃ b, b ≤ 400 ∧ xM3 m n 128 4 = Int32.ofNat b := by
  obtain ⟨a1, a2, a3, b, a4, a5⟩ := readAll_ok (m := x_copyFrom m 43 1) hn (CG.copy (Or.inr (by omega)) hC2 hC) (KX.copy (Or.inr (by omega)) hK2 hK hC)
  unfold xM3
  refine ⟨(a1.far (by omega)).far (by omega), (a2.far (by omega)).far (by omega), fun i l h1 h2 h3 => ?_, b, a4, ?_⟩
  · rw [zx_o _ _ (by omega), zx_o _ _ (by omega), a3 i l h1 h3]
    exact FB.copy (Or.inr (by omega)) hC FB.refl i l (by omega)
  · rw [zx_ne _ _ _ (by decide), zx_ne _ _ _ (by decide)]
    exact a5
end ZRA
noncomputable def e_machine (m : Nat → Nat → Int32) (n : Nat) (b : Nat) : (Int32 ⊕ Nat) × (Nat → Nat → Int32) := (bif zc2 .eq (((zm2 ((zm2 ((x_readAll ((x_copyFrom m 43 1)) n).2) 0 6 ((x_readAll ((x_copyFrom m 43 1)) n).1))) 0 5 ((Int32.ofNat 0)))) 0 6) (-1) then (bif zc2 .lt (((zm2 ((zm2 ((x_readAll ((x_copyFrom m 43 1)) n).2) 0 6 ((x_readAll ((x_copyFrom m 43 1)) n).1))) 0 5 ((Int32.ofNat 0)))) 1 6) (Int32.ofNat 12) then ((.inl ((((zm2 ((zm2 ((x_copyFrom ((zm2 ((zm2 ((x_readAll ((x_copyFrom m 43 1)) n).2) 0 6 ((x_readAll ((x_copyFrom m 43 1)) n).1))) 0 5 ((Int32.ofNat 0)))) 1 43)) 1 6 (((((x_copyFrom ((zm2 ((zm2 ((x_readAll ((x_copyFrom m 43 1)) n).2) 0 6 ((x_readAll ((x_copyFrom m 43 1)) n).1))) 0 5 ((Int32.ofNat 0)))) 1 43)) 1 6) + (Int32.ofNat 1))))) 131 8 (Int32.ofNat 0))) 1 6))), (zm2 ((zm2 ((x_copyFrom ((zm2 ((zm2 ((x_readAll ((x_copyFrom m 43 1)) n).2) 0 6 ((x_readAll ((x_copyFrom m 43 1)) n).1))) 0 5 ((Int32.ofNat 0)))) 1 43)) 1 6 (((((x_copyFrom ((zm2 ((zm2 ((x_readAll ((x_copyFrom m 43 1)) n).2) 0 6 ((x_readAll ((x_copyFrom m 43 1)) n).1))) 0 5 ((Int32.ofNat 0)))) 1 43)) 1 6) + (Int32.ofNat 1))))) 131 8 (Int32.ofNat 0))) else ((.inr 3), (zm2 ((zm2 ((x_readAll ((x_copyFrom m 43 1)) n).2) 0 6 ((x_readAll ((x_copyFrom m 43 1)) n).1))) 0 5 ((Int32.ofNat 0))))) else ((.inr 2), (zm2 ((zm2 ((x_readAll ((x_copyFrom m 43 1)) n).2) 0 6 ((x_readAll ((x_copyFrom m 43 1)) n).1))) 0 5 ((Int32.ofNat 0)))))
theorem ec_machine {σ : Nat → Nat × (Nat → Int32)} {yy : (Nat → Nat → Int64) × Bool × Nat × Nat} {m : Nat → Nat → Int32} {n : Nat} {b : Nat} (hC : CG m 1) (hK : KX m 1 P0) (hC2 : CG m 43) (hK2 : KX m 43 P0) (hs : ZS σ) (h5 : m 0 5 = Int32.ofNat n) (hn : n ≤ 400) (h4 : m 128 4 = Int32.ofNat b) : zF σ 9 1604 [.ref 0] (zS1, m, yy) (xo (e_machine m n b).1) (zS1, (e_machine m n b).2, (xy yy (e_machine m n b).1)) := by
  intro d hd
  obtain ⟨d, rfl⟩ : ∃ k, d = k + 1 := ⟨d - 1, by omega⟩
  show zEv σ (d + 1) 1604 0 [some (.ref 0)] [] _ _ _
  refine zeP rfl rfl ?_
  refine zeGR rfl rfl zS00 rfl rfl ?_
  refine zeP rfl rfl ?_
  refine zeGR rfl rfl zS00 rfl rfl ?_
  refine zeCV rfl rfl rfl rfl (shM bb43) rfl (xc_copyFrom (m := m) (b := 43) (c := 1) bb43 bb1 (Or.inr (by omega)) hC.c hC.c4 (fun t ht => (hK.1 t ht).2.2.2.1)) (by omega) ?_
  dsimp only [Option.toList, List.cons_append, List.nil_append]
  refine zeP rfl rfl ?_
  refine zeP rfl rfl ?_
  refine zeGR rfl rfl zS00 rfl rfl ?_
  refine zeP rfl rfl ?_
  refine zeGI rfl rfl zS00 rfl rfl ?_
  rw [((FB.copy (Or.inr (by omega)) hC FB.refl 0 5 (Or.inl (by omega))).trans h5)]
  refine zeCV rfl rfl rfl rfl zS128 rfl (xc_readAll (m := (x_copyFrom m 43 1)) (e := n) (b := b) hs ((FB.copy (Or.inr (by omega)) hC FB.refl 128 4 (Or.inr (by omega))).trans h4) hn (CG.copy (Or.inr (by omega)) hC2 hC) (KX.copy (Or.inr (by omega)) hK2 hK hC)) (by omega) ?_
  dsimp only [Option.toList, List.cons_append, List.nil_append]
  refine zePI rfl rfl zS00 rfl ?_
  refine zeP rfl rfl ?_
  refine zeKn (c := 0) rfl rfl rfl ?_
  refine zePI rfl rfl zS00 rfl ?_
  refine zeP rfl rfl ?_
  refine zeGI rfl rfl zS00 rfl rfl ?_
  refine zeK (v := -1) rfl rfl rfl ?_
  refine zeB2 rfl rfl (fun h1 => ?_) (fun h1 => ?_)
  · refine zeP rfl rfl ?_
    refine zeGR rfl rfl zS00 rfl rfl ?_
    refine zeGI rfl rfl (shM bb1) rfl rfl ?_
    refine zeKn (c := 12) rfl rfl rfl ?_
    refine zeB2 rfl rfl (fun h2 => ?_) (fun h2 => ?_)
    · refine zeP rfl rfl ?_
      refine zeGR rfl rfl zS00 rfl rfl ?_
      refine zeP rfl rfl ?_
      refine zeGR rfl rfl zS00 rfl rfl ?_
      refine zeCV rfl rfl rfl rfl (shM bb1) rfl (xc_copyFrom (m := (zm2 ((zm2 ((x_readAll ((x_copyFrom m 43 1)) n).2) 0 6 ((x_readAll ((x_copyFrom m 43 1)) n).1))) 0 5 ((Int32.ofNat 0)))) (b := 1) (c := 43) bb1 bb43 (Or.inl (by omega)) (xM3_ok hC hK hC2 hK2 hn).1.c (xM3_ok hC hK hC2 hK2 hn).1.c4 (fun t ht => ((xM3_ok hC hK hC2 hK2 hn).2.1.1 t ht).2.2.2.1)) (by omega) ?_
      dsimp only [Option.toList, List.cons_append, List.nil_append]
      refine zeP rfl rfl ?_
      refine zeGR rfl rfl zS00 rfl rfl ?_
      refine zeP rfl rfl ?_
      refine zeGI rfl rfl (shM bb1) rfl rfl ?_
      refine zeKn (c := 1) rfl rfl rfl ?_
      refine zeP rfl rfl ?_
      refine zePI rfl rfl (shM bb1) rfl ?_
      refine zeP rfl rfl ?_
      refine zeGR rfl rfl zS00 rfl rfl ?_
      refine zeCV rfl rfl rfl rfl zS131 rfl (xc_forget (m := (zm2 ((x_copyFrom ((zm2 ((zm2 ((x_readAll ((x_copyFrom m 43 1)) n).2) 0 6 ((x_readAll ((x_copyFrom m 43 1)) n).1))) 0 5 ((Int32.ofNat 0)))) 1 43)) 1 6 (((((x_copyFrom ((zm2 ((zm2 ((x_readAll ((x_copyFrom m 43 1)) n).2) 0 6 ((x_readAll ((x_copyFrom m 43 1)) n).1))) 0 5 ((Int32.ofNat 0)))) 1 43)) 1 6) + (Int32.ofNat 1)))))) (by omega) ?_
      dsimp only [Option.toList, List.cons_append, List.nil_append]
      refine zeP rfl rfl ?_
      refine zeGR rfl rfl zS00 rfl rfl ?_
      refine zeGI rfl rfl (shM bb1) rfl rfl ?_
      exact zeRe rfl rfl rfl rfl (by simp only [e_machine, h1, h2, cond_true, cond_false] <;> rfl) (by simp only [e_machine, h1, h2, cond_true, cond_false] <;> rfl)
    · exact zeThr rfl rfl rfl rfl rfl rfl (by simp only [e_machine, h1, h2, cond_true, cond_false] <;> rfl) (by simp only [e_machine, h1, h2, cond_true, cond_false] <;> rfl)
  · exact zeThr rfl rfl rfl rfl rfl rfl (by simp only [e_machine, h1, cond_true, cond_false] <;> rfl) (by simp only [e_machine, h1, cond_true, cond_false] <;> rfl)
end
section
/-! the class's search for an order -/
theorem zS132 : zS1[132]? = some (10, 32, []) := rfl
theorem zS133 : zS1[133]? = some (10, 320, []) := rfl
theorem zS134 : zS1[134]? = some (10, 4, []) := rfl
theorem zS135 : zS1[135]? = some (10, 4, []) := rfl
theorem zS136 : zS1[136]? = some (10, 10, []) := rfl
noncomputable def x_playOutput (m : Nat → Nat → Int32) (t : Nat) (s : Int32) : Int32 × (Nat → Nat → Int32) := (bif zc1 .lt (m 131 6) then ((Int32.ofNat 1), m) else (bif zc2 .lt (m 131 6) (Int32.ofNat 20) then (bif zc2 .ge (m 131 6) (m 1 12) then ((Int32.ofNat 0), m) else (bif zc2 .ne (m ((1 + 38)) (((m 131 6).toNatClampNeg))) (Int32.ofNat t) then ((Int32.ofNat 0), m) else (bif zc2 .eq (m ((1 + 39)) (((m 131 6).toNatClampNeg))) s then ((Int32.ofNat 1), (zm2 m 131 6 ((m 131 6) + (Int32.ofNat 1)))) else ((Int32.ofNat 0), m)))) else ((Int32.ofNat 1), m)))
theorem xp_playOutput {σ : Nat → Nat × (Nat → Int32)} {yy : (Nat → Nat → Int64) × Bool × Nat × Nat} {m : Nat → Nat → Int32} {t : Nat} {s : Int32} {d : Nat} (hd : 1 ≤ d + 1) : zEv σ (d + 1) 807 0 [some (.ref 131), some (.int (Int32.ofNat t)), some (.int s)] [] (zS1, m, yy) (.inl (some (.int (x_playOutput m t s).1))) (zS1, ((x_playOutput m t s).2), yy) := by
  refine zeP rfl rfl ?_
  refine zeGI rfl rfl zS131 rfl rfl ?_
  refine zeB1 rfl rfl (fun h1 => ?_) (fun h1 => ?_)
  · refine zeKn (c := 1) rfl rfl rfl ?_
    exact zeRe rfl rfl rfl rfl (by simp only [x_playOutput, h1, cond_true, cond_false] <;> rfl) (by simp only [x_playOutput, h1, cond_true, cond_false] <;> rfl)
  · refine zeP rfl rfl ?_
    refine zeGI rfl rfl zS131 rfl rfl ?_
    refine zeKn (c := 20) rfl rfl rfl ?_
    refine zeB2 rfl rfl (fun h2 => ?_) (fun h2 => ?_)
    · refine zeP rfl rfl ?_
      refine zeGI rfl rfl zS131 rfl rfl ?_
      refine zeP rfl rfl ?_
      refine zeGR rfl rfl zS131 rfl rfl ?_
      refine zeGI rfl rfl (shM bb1) rfl rfl ?_
      refine zeB2 rfl rfl (fun h3 => ?_) (fun h3 => ?_)
      · refine zeKn (c := 0) rfl rfl rfl ?_
        exact zeRe rfl rfl rfl rfl (by simp only [x_playOutput, h1, h2, h3, cond_true, cond_false] <;> rfl) (by simp only [x_playOutput, h1, h2, h3, cond_true, cond_false] <;> rfl)
      · refine zeP rfl rfl ?_
        refine zeGR rfl rfl zS131 rfl rfl ?_
        refine zeGR rfl rfl (shM bb1) rfl rfl ?_
        refine zeP rfl rfl ?_
        refine zeGI rfl rfl zS131 rfl rfl ?_
        rw [(i4_of (x := m 131 6) (n := 20) (by omega) (by assumption) (by assumption)).1]
        refine zeAL (k := ((m 131 6).toNatClampNeg)) rfl rfl (shOT bb1) rfl (by have := (i4_of (x := m 131 6) (n := 20) (by omega) (by assumption) (by assumption)).2; omega) ?_
        refine zeP rfl rfl ?_
        refine zeB2 rfl rfl (fun h4 => ?_) (fun h4 => ?_)
        · refine zeKn (c := 0) rfl rfl rfl ?_
          exact zeRe rfl rfl rfl rfl (by simp only [x_playOutput, h1, h2, h3, h4, cond_true, cond_false] <;> rfl) (by simp only [x_playOutput, h1, h2, h3, h4, cond_true, cond_false] <;> rfl)
        · refine zeP rfl rfl ?_
          refine zeGR rfl rfl zS131 rfl rfl ?_
          refine zeGR rfl rfl (shM bb1) rfl rfl ?_
          refine zeP rfl rfl ?_
          refine zeGI rfl rfl zS131 rfl rfl ?_
          rw [(i4_of (x := m 131 6) (n := 20) (by omega) (by assumption) (by assumption)).1]
          refine zeAL (k := ((m 131 6).toNatClampNeg)) rfl rfl (shOS bb1) rfl (by have := (i4_of (x := m 131 6) (n := 20) (by omega) (by assumption) (by assumption)).2; omega) ?_
          refine zeP rfl rfl ?_
          refine zeB2 rfl rfl (fun h5 => ?_) (fun h5 => ?_)
          · refine zeP rfl rfl ?_
            refine zeP rfl rfl ?_
            refine zeGI rfl rfl zS131 rfl rfl ?_
            refine zeKn (c := 1) rfl rfl rfl ?_
            refine zeP rfl rfl ?_
            refine zePI rfl rfl zS131 rfl ?_
            refine zeKn (c := 1) rfl rfl rfl ?_
            exact zeRe rfl rfl rfl rfl (by simp only [x_playOutput, h1, h2, h3, h4, h5, cond_true, cond_false] <;> rfl) (by simp only [x_playOutput, h1, h2, h3, h4, h5, cond_true, cond_false] <;> rfl)
          · refine zeKn (c := 0) rfl rfl rfl ?_
            exact zeRe rfl rfl rfl rfl (by simp only [x_playOutput, h1, h2, h3, h4, h5, cond_true, cond_false] <;> rfl) (by simp only [x_playOutput, h1, h2, h3, h4, h5, cond_true, cond_false] <;> rfl)
    · refine zeKn (c := 1) rfl rfl rfl ?_
      exact zeRe rfl rfl rfl rfl (by simp only [x_playOutput, h1, h2, cond_true, cond_false] <;> rfl) (by simp only [x_playOutput, h1, h2, cond_true, cond_false] <;> rfl)
theorem xc_playOutput {σ : Nat → Nat × (Nat → Int32)} {yy : (Nat → Nat → Int64) × Bool × Nat × Nat} {m : Nat → Nat → Int32} {t : Nat} {s : Int32} : zF σ 1 807 [.ref 131, .int (Int32.ofNat t), .int s] (zS1, m, yy) (.inl (some (.int (x_playOutput m t s).1))) (zS1, ((x_playOutput m t s).2), yy) := by
  intro d hd
  obtain ⟨d, rfl⟩ : ∃ k, d = k + 1 := ⟨d - 1, by omega⟩
  exact xp_playOutput hd 
/-- an answer yes or no; words, sums and the count of outputs alone may change -/
noncomputable def PDo (m : Nat → Nat → Int32) (X : Int32 × (Nat → Nat → Int32)) : Prop := (X.1 = 0 ∨ X.1 = 1) ∧ ∀ i l, i ≠ 132 → i ≠ 135 → i ≠ 131 ∨ l ≠ 6 → X.2 i l = m i l
theorem PDo.y {m : Nat → Nat → Int32} : PDo m (Int32.ofNat 1, m) := ⟨Or.inr rfl, fun _ _ _ _ _ => rfl⟩
theorem PDo.n {m : Nat → Nat → Int32} : PDo m (Int32.ofNat 0, m) := ⟨Or.inl rfl, fun _ _ _ _ _ => rfl⟩
theorem PDo.p {m : Nat → Nat → Int32} {a k : Nat} {x : Int32} (h : a = 132 ∨ a = 135 ∨ (a = 131 ∧ k = 6)) : PDo m (Int32.ofNat 1, zm2 m a k x) := ⟨Or.inr rfl, fun i l h1 h2 h3 => zx_o _ _ (by omega)⟩
theorem playOutput_o {m : Nat → Nat → Int32} {t : Nat} {s : Int32} : PDo m (x_playOutput m t s) := by
  unfold x_playOutput
  exact cndi (PDo m) PDo.y (cndi (PDo m) (cndi (PDo m) PDo.n (cndi (PDo m) PDo.n (cndi (PDo m) (PDo.p (Or.inr (Or.inr ⟨rfl, rfl⟩))) PDo.n))) PDo.y)
noncomputable def x_pd0 (m : Nat → Nat → Int32) (t : Nat) (q : Nat) : Int32 × (Nat → Nat → Int32) := (bif zc1 .eq (m 132 ((mv m (1 + 5 + q) 0))) then ((Int32.ofNat 1), (zm2 m 132 ((mv m (1 + 5 + q) 0)) (Int32.ofNat 1))) else ((Int32.ofNat 0), m))
theorem xp_pd0 {σ : Nat → Nat × (Nat → Int32)} {yy : (Nat → Nat → Int64) × Bool × Nat × Nat} {m : Nat → Nat → Int32} {t : Nat} {q : Nat} {d : Nat} (hd : 2 ≤ d + 1) (ht : t < 4) (hq : q < 4) (hw : okm m (1 + 5 + q) 0 31) : zEv σ (d + 1) 806 0 [some (.ref 131), some (.int (Int32.ofNat t)), some (.int (Int32.ofNat 0)), some (.int (Int32.ofNat q)), none, none] [] (zS1, m, yy) (.inl (some (.int (x_pd0 m t q).1))) (zS1, ((x_pd0 m t q).2), yy) := by
  refine zeP rfl rfl ?_
  refine zeKn (c := 3) rfl rfl rfl ?_
  refine zeON (c := t) rfl rfl (zand3 (by omega)) ?_
  refine zeP rfl rfl ?_
  refine zeP rfl rfl ?_
  refine zeT1 rfl rfl (show zc1 .eq (Int32.ofNat 0) = true by decide) ?_
  refine zeP rfl rfl ?_
  refine zeGR rfl rfl zS131 rfl rfl ?_
  refine zeP rfl rfl ?_
  refine zeCV rfl rfl rfl rfl (shM bb1) rfl (xc_lockAt (m := m) (b := 1) (l := q) bb1 hq) (by omega) ?_
  dsimp only [Option.toList, List.cons_append, List.nil_append]
  refine zeGI rfl rfl (shL bb1 (by omega)) rfl rfl ?_
  rw [hw.1]
  refine zeP rfl rfl ?_
  refine zeKn (c := 31) rfl rfl rfl ?_
  refine zeON (c := (mv m (1 + 5 + q) 0)) rfl rfl (zand31 _ (by have := hw.2; omega)) ?_
  refine zeP rfl rfl ?_
  refine zeP rfl rfl ?_
  refine zeP rfl rfl ?_
  refine zeP rfl rfl ?_
  refine zeGR rfl rfl zS131 rfl rfl ?_
  refine zeP rfl rfl ?_
  refine zeAL (k := (mv m (1 + 5 + q) 0)) rfl rfl zS132 rfl (by have := hw.2; omega) ?_
  refine zeB1 rfl rfl (fun h1 => ?_) (fun h1 => ?_)
  · refine zeP rfl rfl ?_
    refine zeGR rfl rfl zS131 rfl rfl ?_
    refine zeP rfl rfl ?_
    refine zeKn (c := 1) rfl rfl rfl ?_
    refine zeAS (k := (mv m (1 + 5 + q) 0)) rfl zS132 rfl (by have := hw.2; omega) ?_
    refine zeKn (c := 1) rfl rfl rfl ?_
    exact zeRe rfl rfl rfl rfl (by simp only [x_pd0, h1, cond_true, cond_false] <;> rfl) (by simp only [x_pd0, h1, cond_true, cond_false] <;> rfl)
  · refine zeKn (c := 0) rfl rfl rfl ?_
    exact zeRe rfl rfl rfl rfl (by simp only [x_pd0, h1, cond_true, cond_false] <;> rfl) (by simp only [x_pd0, h1, cond_true, cond_false] <;> rfl)
theorem xc_pd0 {σ : Nat → Nat × (Nat → Int32)} {yy : (Nat → Nat → Int64) × Bool × Nat × Nat} {m : Nat → Nat → Int32} {t : Nat} {q : Nat} (ht : t < 4) (hq : q < 4) (hw : okm m (1 + 5 + q) 0 31) : zF σ 2 806 [.ref 131, .int (Int32.ofNat t), .int (Int32.ofNat 0), .int (Int32.ofNat q)] (zS1, m, yy) (.inl (some (.int (x_pd0 m t q).1))) (zS1, ((x_pd0 m t q).2), yy) := by
  intro d hd
  obtain ⟨d, rfl⟩ : ∃ k, d = k + 1 := ⟨d - 1, by omega⟩
  exact xp_pd0 hd ht hq hw
noncomputable def x_pd1 (m : Nat → Nat → Int32) (t : Nat) (q : Nat) : Int32 × (Nat → Nat → Int32) := ((Int32.ofNat 1), (zm2 m 132 ((mv m (1 + 5 + q) 0)) (Int32.ofNat 0)))
theorem xp_pd1 {σ : Nat → Nat × (Nat → Int32)} {yy : (Nat → Nat → Int64) × Bool × Nat × Nat} {m : Nat → Nat → Int32} {t : Nat} {q : Nat} {d : Nat} (hd : 2 ≤ d + 1) (ht : t < 4) (hq : q < 4) (hw : okm m (1 + 5 + q) 0 31) : zEv σ (d + 1) 806 0 [some (.ref 131), some (.int (Int32.ofNat t)), some (.int (Int32.ofNat 1)), some (.int (Int32.ofNat q)), none, none] [] (zS1, m, yy) (.inl (some (.int (x_pd1 m t q).1))) (zS1, ((x_pd1 m t q).2), yy) := by
  refine zeP rfl rfl ?_
  refine zeKn (c := 3) rfl rfl rfl ?_
  refine zeON (c := t) rfl rfl (zand3 (by omega)) ?_
  refine zeP rfl rfl ?_
  refine zeP rfl rfl ?_
  refine zeF1 rfl rfl (show zc1 .eq (Int32.ofNat 1) = false by decide) ?_
  refine zeP rfl rfl ?_
  refine zeKn (c := 1) rfl rfl rfl ?_
  refine zeF2 rfl rfl (show zc2 .ne (Int32.ofNat 1) (Int32.ofNat 1) = false by decide) ?_
  refine zeP rfl rfl ?_
  refine zeGR rfl rfl zS131 rfl rfl ?_
  refine zeP rfl rfl ?_
  refine zeCV rfl rfl rfl rfl (shM bb1) rfl (xc_lockAt (m := m) (b := 1) (l := q) bb1 hq) (by omega) ?_
  dsimp only [Option.toList, List.cons_append, List.nil_append]
  refine zeGI rfl rfl (shL bb1 (by omega)) rfl rfl ?_
  rw [hw.1]
  refine zeP rfl rfl ?_
  refine zeKn (c := 31) rfl rfl rfl ?_
  refine zeON (c := (mv m (1 + 5 + q) 0)) rfl rfl (zand31 _ (by have := hw.2; omega)) ?_
  refine zeP rfl rfl ?_
  refine zeP rfl rfl ?_
  refine zeP rfl rfl ?_
  refine zeP rfl rfl ?_
  refine zeGR rfl rfl zS131 rfl rfl ?_
  refine zeP rfl rfl ?_
  refine zeKn (c := 0) rfl rfl rfl ?_
  refine zeAS (k := (mv m (1 + 5 + q) 0)) rfl zS132 rfl (by have := hw.2; omega) ?_
  refine zeKn (c := 1) rfl rfl rfl ?_
  exact zeRe rfl rfl rfl rfl (by rfl) (by rfl)
theorem xc_pd1 {σ : Nat → Nat × (Nat → Int32)} {yy : (Nat → Nat → Int64) × Bool × Nat × Nat} {m : Nat → Nat → Int32} {t : Nat} {q : Nat} (ht : t < 4) (hq : q < 4) (hw : okm m (1 + 5 + q) 0 31) : zF σ 2 806 [.ref 131, .int (Int32.ofNat t), .int (Int32.ofNat 1), .int (Int32.ofNat q)] (zS1, m, yy) (.inl (some (.int (x_pd1 m t q).1))) (zS1, ((x_pd1 m t q).2), yy) := by
  intro d hd
  obtain ⟨d, rfl⟩ : ∃ k, d = k + 1 := ⟨d - 1, by omega⟩
  exact xp_pd1 hd ht hq hw
noncomputable def x_pd2 (m : Nat → Nat → Int32) (t : Nat) (q : Nat) : Int32 × (Nat → Nat → Int32) := ((Int32.ofNat 1), (zm2 m 135 t (m 132 q)))
theorem xp_pd2 {σ : Nat → Nat × (Nat → Int32)} {yy : (Nat → Nat → Int64) × Bool × Nat × Nat} {m : Nat → Nat → Int32} {t : Nat} {q : Nat} {d : Nat} (hd : 1 ≤ d + 1) (ht : t < 4) (hq : q < 32) : zEv σ (d + 1) 806 0 [some (.ref 131), some (.int (Int32.ofNat t)), some (.int (Int32.ofNat 2)), some (.int (Int32.ofNat q)), none, none] [] (zS1, m, yy) (.inl (some (.int (x_pd2 m t q).1))) (zS1, ((x_pd2 m t q).2), yy) := by
  refine zeP rfl rfl ?_
  refine zeKn (c := 3) rfl rfl rfl ?_
  refine zeON (c := t) rfl rfl (zand3 (by omega)) ?_
  refine zeP rfl rfl ?_
  refine zeP rfl rfl ?_
  refine zeF1 rfl rfl (show zc1 .eq (Int32.ofNat 2) = false by decide) ?_
  refine zeP rfl rfl ?_
  refine zeKn (c := 1) rfl rfl rfl ?_
  refine zeT2 rfl rfl (show zc2 .ne (Int32.ofNat 2) (Int32.ofNat 1) = true by decide) ?_
  refine zeP rfl rfl ?_
  refine zeKn (c := 31) rfl rfl rfl ?_
  refine zeON (c := q) rfl rfl (zand31 _ hq) ?_
  refine zeP rfl rfl ?_
  refine zeP rfl rfl ?_
  refine zeP rfl rfl ?_
  refine zeP rfl rfl ?_
  refine zeGR rfl rfl zS131 rfl rfl ?_
  refine zeP rfl rfl ?_
  refine zeP rfl rfl ?_
  refine zeGR rfl rfl zS131 rfl rfl ?_
  refine zeP rfl rfl ?_
  refine zeAL (k := q) rfl rfl zS132 rfl (by omega) ?_
  refine zeAS (k := t) rfl zS135 rfl (by omega) ?_
  refine zeKn (c := 1) rfl rfl rfl ?_
  exact zeRe rfl rfl rfl rfl (by rfl) (by rfl)
theorem xc_pd2 {σ : Nat → Nat × (Nat → Int32)} {yy : (Nat → Nat → Int64) × Bool × Nat × Nat} {m : Nat → Nat → Int32} {t : Nat} {q : Nat} (ht : t < 4) (hq : q < 32) : zF σ 1 806 [.ref 131, .int (Int32.ofNat t), .int (Int32.ofNat 2), .int (Int32.ofNat q)] (zS1, m, yy) (.inl (some (.int (x_pd2 m t q).1))) (zS1, ((x_pd2 m t q).2), yy) := by
  intro d hd
  obtain ⟨d, rfl⟩ : ∃ k, d = k + 1 := ⟨d - 1, by omega⟩
  exact xp_pd2 hd ht hq
noncomputable def x_pd3 (m : Nat → Nat → Int32) (t : Nat) (q : Nat) : Int32 × (Nat → Nat → Int32) := ((Int32.ofNat 1), (zm2 m 132 q (m 135 t)))
theorem xp_pd3 {σ : Nat → Nat × (Nat → Int32)} {yy : (Nat → Nat → Int64) × Bool × Nat × Nat} {m : Nat → Nat → Int32} {t : Nat} {q : Nat} {d : Nat} (hd : 1 ≤ d + 1) (ht : t < 4) (hq : q < 32) : zEv σ (d + 1) 806 0 [some (.ref 131), some (.int (Int32.ofNat t)), some (.int (Int32.ofNat 3)), some (.int (Int32.ofNat q)), none, none] [] (zS1, m, yy) (.inl (some (.int (x_pd3 m t q).1))) (zS1, ((x_pd3 m t q).2), yy) := by
  refine zeP rfl rfl ?_
  refine zeKn (c := 3) rfl rfl rfl ?_
  refine zeON (c := t) rfl rfl (zand3 (by omega)) ?_
  refine zeP rfl rfl ?_
  refine zeP rfl rfl ?_
  refine zeF1 rfl rfl (show zc1 .eq (Int32.ofNat 3) = false by decide) ?_
  refine zeP rfl rfl ?_
  refine zeKn (c := 1) rfl rfl rfl ?_
  refine zeT2 rfl rfl (show zc2 .ne (Int32.ofNat 3) (Int32.ofNat 1) = true by decide) ?_
  refine zeP rfl rfl ?_
  refine zeKn (c := 31) rfl rfl rfl ?_
  refine zeON (c := q) rfl rfl (zand31 _ hq) ?_
  refine zeP rfl rfl ?_
  refine zeP rfl rfl ?_
  refine zeP rfl rfl ?_
  refine zeP rfl rfl ?_
  refine zeGR rfl rfl zS131 rfl rfl ?_
  refine zeP rfl rfl ?_
  refine zeP rfl rfl ?_
  refine zeGR rfl rfl zS131 rfl rfl ?_
  refine zeP rfl rfl ?_
  refine zeAL (k := t) rfl rfl zS135 rfl (by omega) ?_
  refine zeAS (k := q) rfl zS132 rfl (by omega) ?_
  refine zeKn (c := 1) rfl rfl rfl ?_
  exact zeRe rfl rfl rfl rfl (by rfl) (by rfl)
theorem xc_pd3 {σ : Nat → Nat × (Nat → Int32)} {yy : (Nat → Nat → Int64) × Bool × Nat × Nat} {m : Nat → Nat → Int32} {t : Nat} {q : Nat} (ht : t < 4) (hq : q < 32) : zF σ 1 806 [.ref 131, .int (Int32.ofNat t), .int (Int32.ofNat 3), .int (Int32.ofNat q)] (zS1, m, yy) (.inl (some (.int (x_pd3 m t q).1))) (zS1, ((x_pd3 m t q).2), yy) := by
  intro d hd
  obtain ⟨d, rfl⟩ : ∃ k, d = k + 1 := ⟨d - 1, by omega⟩
  exact xp_pd3 hd ht hq
noncomputable def x_pd4 (m : Nat → Nat → Int32) (t : Nat) (q : Nat) : Int32 × (Nat → Nat → Int32) := ((Int32.ofNat 1), (zm2 m 135 t (Int32.ofNat q)))
theorem xp_pd4 {σ : Nat → Nat × (Nat → Int32)} {yy : (Nat → Nat → Int64) × Bool × Nat × Nat} {m : Nat → Nat → Int32} {t : Nat} {q : Nat} {d : Nat} (hd : 1 ≤ d + 1) (ht : t < 4) : zEv σ (d + 1) 806 0 [some (.ref 131), some (.int (Int32.ofNat t)), some (.int (Int32.ofNat 4)), some (.int (Int32.ofNat q)), none, none] [] (zS1, m, yy) (.inl (some (.int (x_pd4 m t q).1))) (zS1, ((x_pd4 m t q).2), yy) := by
  refine zeP rfl rfl ?_
  refine zeKn (c := 3) rfl rfl rfl ?_
  refine zeON (c := t) rfl rfl (zand3 (by omega)) ?_
  refine zeP rfl rfl ?_
  refine zeP rfl rfl ?_
  refine zeF1 rfl rfl (show zc1 .eq (Int32.ofNat 4) = false by decide) ?_
  refine zeP rfl rfl ?_
  refine zeKn (c := 1) rfl rfl rfl ?_
  refine zeT2 rfl rfl (show zc2 .ne (Int32.ofNat 4) (Int32.ofNat 1) = true by decide) ?_
  refine zeP rfl rfl ?_
  refine zeKn (c := 31) rfl rfl rfl ?_
  refine zeP rfl rfl ?_
  refine zeP rfl rfl ?_
  refine zeP rfl rfl ?_
  refine zeP rfl rfl ?_
  refine zeP rfl rfl ?_
  refine zeGR rfl rfl zS131 rfl rfl ?_
  refine zeP rfl rfl ?_
  refine zeP rfl rfl ?_
  refine zeAS (k := t) rfl zS135 rfl (by omega) ?_
  refine zeKn (c := 1) rfl rfl rfl ?_
  exact zeRe rfl rfl rfl rfl (by rfl) (by rfl)
theorem xc_pd4 {σ : Nat → Nat × (Nat → Int32)} {yy : (Nat → Nat → Int64) × Bool × Nat × Nat} {m : Nat → Nat → Int32} {t : Nat} {q : Nat} (ht : t < 4) : zF σ 1 806 [.ref 131, .int (Int32.ofNat t), .int (Int32.ofNat 4), .int (Int32.ofNat q)] (zS1, m, yy) (.inl (some (.int (x_pd4 m t q).1))) (zS1, ((x_pd4 m t q).2), yy) := by
  intro d hd
  obtain ⟨d, rfl⟩ : ∃ k, d = k + 1 := ⟨d - 1, by omega⟩
  exact xp_pd4 hd ht
noncomputable def x_pd5 (m : Nat → Nat → Int32) (t : Nat) (q : Nat) : Int32 × (Nat → Nat → Int32) := ((Int32.ofNat 1), (zm2 m 135 t (((m 135 t) + (Int32.ofNat q)) - ((m 135 t) + (Int32.ofNat q)) / (Int32.ofNat 10000) * (Int32.ofNat 10000))))
theorem xp_pd5 {σ : Nat → Nat × (Nat → Int32)} {yy : (Nat → Nat → Int64) × Bool × Nat × Nat} {m : Nat → Nat → Int32} {t : Nat} {q : Nat} {d : Nat} (hd : 1 ≤ d + 1) (ht : t < 4) : zEv σ (d + 1) 806 0 [some (.ref 131), some (.int (Int32.ofNat t)), some (.int (Int32.ofNat 5)), some (.int (Int32.ofNat q)), none, none] [] (zS1, m, yy) (.inl (some (.int (x_pd5 m t q).1))) (zS1, ((x_pd5 m t q).2), yy) := by
  refine zeP rfl rfl ?_
  refine zeKn (c := 3) rfl rfl rfl ?_
  refine zeON (c := t) rfl rfl (zand3 (by omega)) ?_
  refine zeP rfl rfl ?_
  refine zeP rfl rfl ?_
  refine zeF1 rfl rfl (show zc1 .eq (Int32.ofNat 5) = false by decide) ?_
  refine zeP rfl rfl ?_
  refine zeKn (c := 1) rfl rfl rfl ?_
  refine zeT2 rfl rfl (show zc2 .ne (Int32.ofNat 5) (Int32.ofNat 1) = true by decide) ?_
  refine zeP rfl rfl ?_
  refine zeKn (c := 31) rfl rfl rfl ?_
  refine zeP rfl rfl ?_
  refine zeP rfl rfl ?_
  refine zeP rfl rfl ?_
  refine zeP rfl rfl ?_
  refine zeP rfl rfl ?_
  refine zeGR rfl rfl zS131 rfl rfl ?_
  refine zeP rfl rfl ?_
  refine zeP rfl rfl ?_
  refine zeGR rfl rfl zS131 rfl rfl ?_
  refine zeP rfl rfl ?_
  refine zeAL (k := t) rfl rfl zS135 rfl (by omega) ?_
  refine zeP rfl rfl ?_
  refine zeP rfl rfl ?_
  refine zeKn (c := 10000) rfl rfl rfl ?_
  refine zeRem rfl (by decide) ?_
  refine zeAS (k := t) rfl zS135 rfl (by omega) ?_
  refine zeKn (c := 1) rfl rfl rfl ?_
  exact zeRe rfl rfl rfl rfl (by rfl) (by rfl)
theorem xc_pd5 {σ : Nat → Nat × (Nat → Int32)} {yy : (Nat → Nat → Int64) × Bool × Nat × Nat} {m : Nat → Nat → Int32} {t : Nat} {q : Nat} (ht : t < 4) : zF σ 1 806 [.ref 131, .int (Int32.ofNat t), .int (Int32.ofNat 5), .int (Int32.ofNat q)] (zS1, m, yy) (.inl (some (.int (x_pd5 m t q).1))) (zS1, ((x_pd5 m t q).2), yy) := by
  intro d hd
  obtain ⟨d, rfl⟩ : ∃ k, d = k + 1 := ⟨d - 1, by omega⟩
  exact xp_pd5 hd ht
noncomputable def x_pd6 (t : Nat) (q : Nat) : Int32 := (Int32.ofNat 1)
theorem xp_pd6 {σ : Nat → Nat × (Nat → Int32)} {yy : (Nat → Nat → Int64) × Bool × Nat × Nat} {m : Nat → Nat → Int32} {t : Nat} {q : Nat} {d : Nat} (hd : 1 ≤ d + 1) (ht : t < 4) : zEv σ (d + 1) 806 0 [some (.ref 131), some (.int (Int32.ofNat t)), some (.int (Int32.ofNat 6)), some (.int (Int32.ofNat q)), none, none] [] (zS1, m, yy) (.inl (some (.int (x_pd6 t q)))) (zS1, m, yy) := by
  refine zeP rfl rfl ?_
  refine zeKn (c := 3) rfl rfl rfl ?_
  refine zeON (c := t) rfl rfl (zand3 (by omega)) ?_
  refine zeP rfl rfl ?_
  refine zeP rfl rfl ?_
  refine zeF1 rfl rfl (show zc1 .eq (Int32.ofNat 6) = false by decide) ?_
  refine zeP rfl rfl ?_
  refine zeKn (c := 1) rfl rfl rfl ?_
  refine zeT2 rfl rfl (show zc2 .ne (Int32.ofNat 6) (Int32.ofNat 1) = true by decide) ?_
  refine zeP rfl rfl ?_
  refine zeKn (c := 31) rfl rfl rfl ?_
  refine zeP rfl rfl ?_
  refine zeP rfl rfl ?_
  refine zeP rfl rfl ?_
  refine zeP rfl rfl ?_
  refine zeKn (c := 1) rfl rfl rfl ?_
  exact zeRe rfl rfl rfl rfl (by rfl) (by rfl)
theorem xc_pd6 {σ : Nat → Nat × (Nat → Int32)} {yy : (Nat → Nat → Int64) × Bool × Nat × Nat} {m : Nat → Nat → Int32} {t : Nat} {q : Nat} (ht : t < 4) : zF σ 1 806 [.ref 131, .int (Int32.ofNat t), .int (Int32.ofNat 6), .int (Int32.ofNat q)] (zS1, m, yy) (.inl (some (.int (x_pd6 t q)))) (zS1, m, yy) := by
  intro d hd
  obtain ⟨d, rfl⟩ : ∃ k, d = k + 1 := ⟨d - 1, by omega⟩
  exact xp_pd6 hd ht
noncomputable def x_pd7 (m : Nat → Nat → Int32) (t : Nat) (q : Nat) : Int32 × (Nat → Nat → Int32) := ((x_playOutput m t ((m 135 t))).1, (x_playOutput m t ((m 135 t))).2)
theorem xp_pd7 {σ : Nat → Nat × (Nat → Int32)} {yy : (Nat → Nat → Int64) × Bool × Nat × Nat} {m : Nat → Nat → Int32} {t : Nat} {q : Nat} {d : Nat} (hd : 2 ≤ d + 1) (ht : t < 4) : zEv σ (d + 1) 806 0 [some (.ref 131), some (.int (Int32.ofNat t)), some (.int (Int32.ofNat 7)), some (.int (Int32.ofNat q)), none, none] [] (zS1, m, yy) (.inl (some (.int (x_pd7 m t q).1))) (zS1, ((x_pd7 m t q).2), yy) := by
  refine zeP rfl rfl ?_
  refine zeKn (c := 3) rfl rfl rfl ?_
  refine zeON (c := t) rfl rfl (zand3 (by omega)) ?_
  refine zeP rfl rfl ?_
  refine zeP rfl rfl ?_
  refine zeF1 rfl rfl (show zc1 .eq (Int32.ofNat 7) = false by decide) ?_
  refine zeP rfl rfl ?_
  refine zeKn (c := 1) rfl rfl rfl ?_
  refine zeT2 rfl rfl (show zc2 .ne (Int32.ofNat 7) (Int32.ofNat 1) = true by decide) ?_
  refine zeP rfl rfl ?_
  refine zeKn (c := 31) rfl rfl rfl ?_
  refine zeP rfl rfl ?_
  refine zeP rfl rfl ?_
  refine zeP rfl rfl ?_
  refine zeP rfl rfl ?_
  refine zeP rfl rfl ?_
  refine zeP rfl rfl ?_
  refine zeP rfl rfl ?_
  refine zeGR rfl rfl zS131 rfl rfl ?_
  refine zeP rfl rfl ?_
  refine zeAL (k := t) rfl rfl zS135 rfl (by omega) ?_
  refine zeCV rfl rfl rfl rfl zS131 rfl (xc_playOutput (m := m) (t := t) (s := (m 135 t)) ) (by omega) ?_
  dsimp only [Option.toList, List.cons_append, List.nil_append]
  exact zeRe rfl rfl rfl (zretB rfl rfl playOutput_o.1) (by rfl) (by rfl)
theorem xc_pd7 {σ : Nat → Nat × (Nat → Int32)} {yy : (Nat → Nat → Int64) × Bool × Nat × Nat} {m : Nat → Nat → Int32} {t : Nat} {q : Nat} (ht : t < 4) : zF σ 2 806 [.ref 131, .int (Int32.ofNat t), .int (Int32.ofNat 7), .int (Int32.ofNat q)] (zS1, m, yy) (.inl (some (.int (x_pd7 m t q).1))) (zS1, ((x_pd7 m t q).2), yy) := by
  intro d hd
  obtain ⟨d, rfl⟩ : ∃ k, d = k + 1 := ⟨d - 1, by omega⟩
  exact xp_pd7 hd ht
noncomputable def x_playDeed (m : Nat → Nat → Int32) (t K q : Nat) : Int32 × (Nat → Nat → Int32) := match K with
  | 0 => x_pd0 m t q
  | 1 => x_pd1 m t q
  | 2 => x_pd2 m t q
  | 3 => x_pd3 m t q
  | 4 => x_pd4 m t q
  | 5 => x_pd5 m t q
  | 6 => (Int32.ofNat 1, m)
  | _ => x_pd7 m t q
section ZPD
variable {m : Nat → Nat → Int32} {t K q : Nat}
theorem xc_playDeed {σ : Nat → Nat × (Nat → Int32)} {yy : (Nat → Nat → Int64) × Bool × Nat × Nat} (hC : CG m 1) (ht : t < 4) (hK : K ≤ 7) (k1 : K ≤ 1 → q ≤ 3) (k3 : K ≤ 3 → q ≤ 31) : zF σ 2 806 [.ref 131, .int (Int32.ofNat t), .int (Int32.ofNat K), .int (Int32.ofNat q)] (zS1, m, yy) (.inl (some (.int (x_playDeed m t K q).1))) (zS1, (x_playDeed m t K q).2, yy) := by
  match K, hK, k1, k3 with
  | 0, _, k1, _ =>
    have := k1 (by omega)
    exact (xc_pd0 ht (by omega) (hC.w (by omega))).up (by omega)
  | 1, _, k1, _ =>
    have := k1 (by omega)
    exact (xc_pd1 ht (by omega) (hC.w (by omega))).up (by omega)
  | 2, _, _, k3 =>
    have := k3 (by omega)
    exact (xc_pd2 ht (by omega)).up (by omega)
  | 3, _, _, k3 =>
    have := k3 (by omega)
    exact (xc_pd3 ht (by omega)).up (by omega)
  | 4, _, _, _ => exact (xc_pd4 ht).up (by omega)
  | 5, _, _, _ => exact (xc_pd5 ht).up (by omega)
  | 6, _, _, _ => exact (xc_pd6 ht).up (by omega)
  | 7, _, _, _ => exact (xc_pd7 ht).up (by omega)
  | k + 8, h, _, _ => exact absurd h (by omega)
theorem playDeed_o : PDo m (x_playDeed m t K q) := by
  unfold x_playDeed
  split
  · unfold x_pd0
    exact cndi (PDo m) (PDo.p (Or.inl rfl)) PDo.n
  · exact PDo.p (Or.inl rfl)
  · exact PDo.p (Or.inr (Or.inl rfl))
  · exact PDo.p (Or.inl rfl)
  · exact PDo.p (Or.inr (Or.inl rfl))
  · exact PDo.p (Or.inr (Or.inl rfl))
  · exact PDo.y
  · exact playOutput_o
theorem CG.low {m' : Nat → Nat → Int32} (h : CG m 1) (e : ∀ i l, i < 131 → m' i l = m i l) : CG m' 1 := h.same (fun i l hi => e i l (by rcases hi with ⟨e, _⟩ | ⟨e, _⟩ | ⟨t, ht, ⟨e, _⟩ | e⟩ | ⟨l, hl, e, _⟩ <;> omega))
theorem KX.low {m' : Nat → Nat → Int32} {Q : Nat → Prop} (h : KX m 1 Q) (e : ∀ i l, i < 131 → m' i l = m i l) : KX m' 1 Q := h.same (fun i l hi => e i l (by rcases hi with ⟨e, _⟩ | ⟨t, ht, ⟨e, _⟩ | ⟨e, _⟩ | e | e⟩ <;> omega))
theorem PDo.low {X : Int32 × (Nat → Nat → Int32)} (h : PDo m X) : ∀ i l, i < 131 → X.2 i l = m i l := fun i l hi => h.2 i l (by omega) (by omega) (Or.inl (by omega))
end ZPD
noncomputable def xl_playPL (t : Nat) (en : Nat) : Nat → Nat → (Nat → Nat → Int32) → Int32 × (Nat → Nat → Int32)
  | 0, k, m => ((Int32.ofNat 1), (zm2 m 134 t (Int32.ofNat en)))
  | n + 1, k, m => (bif zc1 .ne (x_playDeed m t ((mv m (1 + 11 + 7 * t) k)) ((mv m (1 + 12 + 7 * t) k))).1 then (xl_playPL t en n ((k + 1)) ((x_playDeed m t ((mv m (1 + 11 + 7 * t) k)) ((mv m (1 + 12 + 7 * t) k))).2)) else ((Int32.ofNat 0), (x_playDeed m t ((mv m (1 + 11 + 7 * t) k)) ((mv m (1 + 12 + 7 * t) k))).2))
theorem xw_playPL {σ : Nat → Nat × (Nat → Int32)} {yy : (Nat → Nat → Int64) × Bool × Nat × Nat} {t : Nat} {en : Nat} {d : Nat} (hd : 3 ≤ d + 1) (ht : t < 4) (hen : en ≤ 24) : ∀ (n : Nat) (k : Nat) (m : Nat → Nat → Int32), k + n = en → CG m 1 → KX m 1 P0 → zEv σ (d + 1) 805 33 [some (.ref 131), some (.int (Int32.ofNat t)), some (.int (Int32.ofNat t)), some (.ref (1 + 10 + 7 * t)), some (.int (Int32.ofNat en)), some (.int (Int32.ofNat k))] [] (zS1, m, yy) (.inl (some (.int (xl_playPL t en n k m).1))) (zS1, ((xl_playPL t en n k m).2), yy) := by
  intro n
  induction n with
  | zero =>
    intro k m hk hC hK
    refine zeP rfl rfl ?_
    refine zeP rfl rfl ?_
    refine zeT2 rfl rfl (zcge (by omega) (by omega) (by omega)) ?_
    refine zeP rfl rfl ?_
    refine zeGR rfl rfl zS131 rfl rfl ?_
    refine zeP rfl rfl ?_
    refine zeP rfl rfl ?_
    refine zeAS (k := t) rfl zS134 rfl (by omega) ?_
    refine zeKn (c := 1) rfl rfl rfl ?_
    exact zeRe rfl rfl rfl rfl (by rfl) (by rfl)
  | succ n ih =>
    intro k m hk hC hK
    refine zeP rfl rfl ?_
    refine zeP rfl rfl ?_
    refine zeF2 rfl rfl (zcge_f (by omega) (by omega) (by omega)) ?_
    refine zeP rfl rfl ?_
    refine zeP rfl rfl ?_
    refine zeP rfl rfl ?_
    refine zeP rfl rfl ?_
    refine zeCV rfl rfl rfl rfl (shS bb1 (by omega)) rfl (xc_kindAt (m := m) (b := 1) (t := t) (p := k) bb1 ht (by omega)) (by omega) ?_
    dsimp only [Option.toList, List.cons_append, List.nil_append]
    rw [(show x_kindAt m 1 t k = Int32.ofNat (mv m (1 + 11 + 7 * t) k) from ((hK.1 t ht).2.2.2.2 k (by omega)).1.1)]
    refine zeP rfl rfl ?_
    refine zeP rfl rfl ?_
    refine zeCV rfl rfl rfl rfl (shS bb1 (by omega)) rfl (xc_numberAt (m := m) (b := 1) (t := t) (p := k) bb1 ht (by omega)) (by omega) ?_
    dsimp only [Option.toList, List.cons_append, List.nil_append]
    rw [(show x_numberAt m 1 t k = Int32.ofNat (mv m (1 + 12 + 7 * t) k) from ((hK.1 t ht).2.2.2.2 k (by omega)).2.1.1)]
    refine zeCV rfl rfl rfl rfl zS131 rfl (xc_playDeed (m := m) (t := t) (K := (mv m (1 + 11 + 7 * t) k)) (q := (mv m (1 + 12 + 7 * t) k)) hC ht ((hK.1 t ht).2.2.2.2 k (by omega)).1.2 ((hK.1 t ht).2.2.2.2 k (by omega)).2.2.1 ((hK.1 t ht).2.2.2.2 k (by omega)).2.2.2) (by omega) ?_
    dsimp only [Option.toList, List.cons_append, List.nil_append]
    refine zeB1 rfl rfl (fun h1 => ?_) (fun h1 => ?_)
    · refine zeInc rfl rfl ?_
      refine zeP rfl rfl ?_
      simp only [xl_playPL, h1, cond_true, cond_false]
      exact ih ((k + 1))  ((x_playDeed m t ((mv m (1 + 11 + 7 * t) k)) ((mv m (1 + 12 + 7 * t) k))).2) (by omega) (hC.low (playDeed_o (m := m) (t := t) (K := mv m (1 + 11 + 7 * t) k) (q := mv m (1 + 12 + 7 * t) k)).low) (hK.low (playDeed_o (m := m) (t := t) (K := mv m (1 + 11 + 7 * t) k) (q := mv m (1 + 12 + 7 * t) k)).low)
    · refine zeKn (c := 0) rfl rfl rfl ?_
      exact zeRe rfl rfl rfl rfl (by simp only [xl_playPL, h1, cond_true, cond_false] <;> rfl) (by simp only [xl_playPL, h1, cond_true, cond_false] <;> rfl)
noncomputable def x_playPart (m : Nat → Nat → Int32) (t : Nat) : Int32 × (Nat → Nat → Int32) := (xl_playPL t ((pen m 1 t (mv m 134 t))) ((pen m 1 t (mv m 134 t) - mv m 134 t)) ((mv m 134 t)) m)
theorem xp_playPart {σ : Nat → Nat × (Nat → Int32)} {yy : (Nat → Nat → Int64) × Bool × Nat × Nat} {m : Nat → Nat → Int32} {t : Nat} {d : Nat} (hd : 4 ≤ d + 1) (ht : t < 4) (hC : CG m 1) (hK : KX m 1 P0) (hP : okm m 134 t 24) (hpl : mv m 134 t < mv m (1 + 10 + 7 * t) 2) : zEv σ (d + 1) 805 0 [some (.ref 131), some (.int (Int32.ofNat t)), none, none, none, none] [] (zS1, m, yy) (.inl (some (.int (x_playPart m t).1))) (zS1, ((x_playPart m t).2), yy) := by
  refine zeP rfl rfl ?_
  refine zeKn (c := 3) rfl rfl rfl ?_
  refine zeON (c := t) rfl rfl (zand3 (by omega)) ?_
  refine zeP rfl rfl ?_
  refine zeP rfl rfl ?_
  refine zeGR rfl rfl zS131 rfl rfl ?_
  refine zeP rfl rfl ?_
  refine zeCV rfl rfl rfl rfl (shM bb1) rfl (xc_strandAt (m := m) (b := 1) (t := t) bb1 ht) (by omega) ?_
  dsimp only [Option.toList, List.cons_append, List.nil_append]
  refine zeP rfl rfl ?_
  refine zeP rfl rfl ?_
  refine zeP rfl rfl ?_
  refine zeGR rfl rfl zS131 rfl rfl ?_
  refine zeP rfl rfl ?_
  refine zeAL (k := t) rfl rfl zS134 rfl (by omega) ?_
  rw [hP.1]
  refine zeCV rfl rfl rfl rfl (shS bb1 (by omega)) rfl (xc_partEnd (m := m) (b := 1) (t := t) (p := (mv m 134 t)) bb1 ht (hK.1 t ht) hpl) (by omega) ?_
  dsimp only [Option.toList, List.cons_append, List.nil_append]
  rw [(pe_n (hK.1 t ht) hpl).1]
  refine zeP rfl rfl ?_
  have hpe := (pe_n (hK.1 t ht) hpl).2
  have h24 := (hK.1 t ht).1.2
  refine zeP rfl rfl ?_
  refine zeGR rfl rfl zS131 rfl rfl ?_
  refine zeP rfl rfl ?_
  refine zeAL (k := t) rfl rfl zS134 rfl (by omega) ?_
  rw [hP.1]
  refine zeP rfl rfl ?_
  simp only [x_playPart, cond_true, cond_false]
  exact xw_playPL (t := t) (en := (pen m 1 t (mv m 134 t))) (by omega) ht (by omega) ((pen m 1 t (mv m 134 t) - mv m 134 t)) ((mv m 134 t))  m (by omega) hC hK
theorem xc_playPart {σ : Nat → Nat × (Nat → Int32)} {yy : (Nat → Nat → Int64) × Bool × Nat × Nat} {m : Nat → Nat → Int32} {t : Nat} (ht : t < 4) (hC : CG m 1) (hK : KX m 1 P0) (hP : okm m 134 t 24) (hpl : mv m 134 t < mv m (1 + 10 + 7 * t) 2) : zF σ 4 805 [.ref 131, .int (Int32.ofNat t)] (zS1, m, yy) (.inl (some (.int (x_playPart m t).1))) (zS1, ((x_playPart m t).2), yy) := by
  intro d hd
  obtain ⟨d, rfl⟩ : ∃ k, d = k + 1 := ⟨d - 1, by omega⟩
  exact xp_playPart hd ht hC hK hP hpl
noncomputable def xl_cameL (m : Nat → Nat → Int32) : Nat → Nat → Int32
  | 0, k => (Int32.ofNat 1)
  | n + 1, k => (bif zc2 .eq (m 132 k) (m ((1 + 1)) k) then (xl_cameL m n ((k + 1))) else (Int32.ofNat 0))
theorem xw_cameL {σ : Nat → Nat × (Nat → Int32)} {yy : (Nat → Nat → Int64) × Bool × Nat × Nat} {m : Nat → Nat → Int32} {d : Nat} (hd : 1 ≤ d + 1) : ∀ (n : Nat) (k : Nat), k + n = 32 → zEv σ (d + 1) 808 18 [some (.ref 131), some (.int (Int32.ofNat k))] [] (zS1, m, yy) (.inl (some (.int (xl_cameL m n k)))) (zS1, m, yy) := by
  intro n
  induction n with
  | zero =>
    intro k hk
    refine zeP rfl rfl ?_
    refine zeKn (c := 32) rfl rfl rfl ?_
    refine zeT2 rfl rfl (zcge (by omega) (by omega) (by omega)) ?_
    refine zeKn (c := 1) rfl rfl rfl ?_
    exact zeRe rfl rfl rfl rfl (by rfl) (by rfl)
  | succ n ih =>
    intro k hk
    refine zeP rfl rfl ?_
    refine zeKn (c := 32) rfl rfl rfl ?_
    refine zeF2 rfl rfl (zcge_f (by omega) (by omega) (by omega)) ?_
    refine zeP rfl rfl ?_
    refine zeGR rfl rfl zS131 rfl rfl ?_
    refine zeP rfl rfl ?_
    refine zeAL (k := k) rfl rfl zS132 rfl (by omega) ?_
    refine zeP rfl rfl ?_
    refine zeGR rfl rfl zS131 rfl rfl ?_
    refine zeGR rfl rfl (shM bb1) rfl rfl ?_
    refine zeP rfl rfl ?_
    refine zeAL (k := k) rfl rfl (shW bb1) rfl (by omega) ?_
    refine zeB2 rfl rfl (fun h1 => ?_) (fun h1 => ?_)
    · refine zeInc rfl rfl ?_
      refine zeP rfl rfl ?_
      simp only [xl_cameL, h1, cond_true, cond_false]
      exact ih ((k + 1))   (by omega) 
    · refine zeKn (c := 0) rfl rfl rfl ?_
      exact zeRe rfl rfl rfl rfl (by simp only [xl_cameL, h1, cond_true, cond_false] <;> rfl) (by simp only [xl_cameL, h1, cond_true, cond_false] <;> rfl)
noncomputable def x_cameOut (m : Nat → Nat → Int32) : Int32 := (bif zc2 .eq (m 131 6) (m 1 12) then (xl_cameL m 32 0) else (Int32.ofNat 0))
theorem xp_cameOut {σ : Nat → Nat × (Nat → Int32)} {yy : (Nat → Nat → Int64) × Bool × Nat × Nat} {m : Nat → Nat → Int32} {d : Nat} (hd : 1 ≤ d + 1) : zEv σ (d + 1) 808 0 [some (.ref 131), none] [] (zS1, m, yy) (.inl (some (.int (x_cameOut m)))) (zS1, m, yy) := by
  refine zeP rfl rfl ?_
  refine zeGI rfl rfl zS131 rfl rfl ?_
  refine zeP rfl rfl ?_
  refine zeGR rfl rfl zS131 rfl rfl ?_
  refine zeGI rfl rfl (shM bb1) rfl rfl ?_
  refine zeB2 rfl rfl (fun h1 => ?_) (fun h1 => ?_)
  · refine zeKn (c := 0) rfl rfl rfl ?_
    refine zeP rfl rfl ?_
    simp only [x_cameOut, h1, cond_true, cond_false]
    exact xw_cameL  (m := m) (by omega)  32 (0)   (by omega) 
  · refine zeKn (c := 0) rfl rfl rfl ?_
    exact zeRe rfl rfl rfl rfl (by simp only [x_cameOut, h1, cond_true, cond_false] <;> rfl) (by simp only [x_cameOut, h1, cond_true, cond_false] <;> rfl)
theorem xc_cameOut {σ : Nat → Nat × (Nat → Int32)} {yy : (Nat → Nat → Int64) × Bool × Nat × Nat} {m : Nat → Nat → Int32} : zF σ 1 808 [.ref 131] (zS1, m, yy) (.inl (some (.int (x_cameOut m)))) (zS1, m, yy) := by
  intro d hd
  obtain ⟨d, rfl⟩ : ∃ k, d = k + 1 := ⟨d - 1, by omega⟩
  exact xp_cameOut hd 
section ZPP
variable {m : Nat → Nat → Int32} {t n5 : Nat}
/-- the machine in order, the places of the search numbers -/
noncomputable def OJ (m : Nat → Nat → Int32) (n5 : Nat) : Prop := CG m 1 ∧ KX m 1 P0 ∧ (∀ u, u < 4 → okm m 134 u 24) ∧ m 1 5 = Int32.ofNat n5
theorem OJ.of {m' : Nat → Nat → Int32} (h : OJ m n5) (e : ∀ i l, i < 131 → m' i l = m i l) (ei : ∀ u, u < 4 → okm m' 134 u 24) : OJ m' n5 := ⟨h.1.low e, h.2.1.low e, ei, (e 1 5 (by omega)).trans h.2.2.2⟩
/-- what a search leaves alone -/
noncomputable def OF3 (m : Nat → Nat → Int32) (X : Int32 × (Nat → Nat → Int32)) : Prop := (X.1 = 0 ∨ X.1 = 1) ∧ (∀ i l, i < 131 ∨ 137 ≤ i → X.2 i l = m i l) ∧ (∀ l, l ≠ 6 → X.2 131 l = m 131 l) ∧ ∀ u, u < 4 → okm X.2 134 u 24
theorem playPL_o {en : Nat} (ht : t < 4) (hen : en ≤ 24) : ∀ (n k : Nat) (m : Nat → Nat → Int32), k + n = en → (∀ u, u < 4 → okm m 134 u 24) → OF3 m (xl_playPL t en n k m) := by
  intro n
  induction n with
  | zero =>
    intro k m hk hi
    refine ⟨Or.inr rfl, fun i l h => (show zm2 m 134 t (Int32.ofNat en) i l = m i l from zx_ne _ _ _ (by omega)), fun l _ => (show zm2 m 134 t (Int32.ofNat en) 131 l = m 131 l from zx_ne _ _ _ (by omega)), fun u hu => ?_⟩
    show okm (zm2 m 134 t (Int32.ofNat en)) 134 u 24
    by_cases e : u = t
    · subst e
      exact okm.is (zx_at _ _ _ _) hen (by omega)
    · exact (hi u hu).of (zx_nk _ _ e)
  | succ n ih =>
    intro k m hk hi
    have o : PDo m (x_playDeed m t (mv m (1 + 11 + 7 * t) k) (mv m (1 + 12 + 7 * t) k)) := playDeed_o
    rw [xl_playPL]
    generalize x_playDeed m t (mv m (1 + 11 + 7 * t) k) (mv m (1 + 12 + 7 * t) k) = X at o ⊢
    have hi2 : ∀ u, u < 4 → okm X.2 134 u 24 := fun u hu => (hi u hu).of (o.2 _ _ (by omega) (by omega) (Or.inl (by omega)))
    have c1 : ∀ i l, i < 131 ∨ 137 ≤ i → X.2 i l = m i l := fun i l h => o.2 i l (by omega) (by omega) (Or.inl (by omega))
    have c2 : ∀ l, l ≠ 6 → X.2 131 l = m 131 l := fun l h => o.2 131 l (by omega) (by omega) (Or.inr h)
    obtain ⟨a1, a2, a3, a4⟩ := ih (k + 1) X.2 (by omega) hi2
    exact cndi (OF3 m) ⟨a1, fun i l h => (a2 i l h).trans (c1 i l h), fun l h => (a3 l h).trans (c2 l h), a4⟩ ⟨Or.inl rfl, c1, c2, hi2⟩
theorem playPart_o (hj : OJ m n5) (ht : t < 4) (hpl : mv m 134 t < mv m (1 + 10 + 7 * t) 2) : OF3 m (x_playPart m t) := by
  have hpe := (pe_n (hj.2.1.1 t ht) hpl).2
  have h24 := (hj.2.1.1 t ht).1.2
  exact playPL_o ht (by omega) _ _ _ (by omega) hj.2.2.1
theorem OF3.j {X : Int32 × (Nat → Nat → Int32)} (h : OF3 m X) (hj : OJ m n5) : OJ X.2 n5 := hj.of (fun i l hi => h.2.1 i l (Or.inl hi)) h.2.2.2
theorem pl_far {k : Nat} {x : Int32} (ht : t < 4) (h : mv m 134 t < mv m (1 + 10 + 7 * t) 2) : mv (zm2 m 136 k x) 134 t < mv (zm2 m 136 k x) (1 + 10 + 7 * t) 2 := by
  unfold mv at *
  rw [zx_ne _ _ _ (by omega), zx_ne _ _ _ (by omega)]
  exact h
theorem OJ.far {a k : Nat} {x : Int32} (h : OJ m n5) (ha : 131 ≤ a) (h4 : a ≠ 134) : OJ (zm2 m a k x) n5 := h.of (fun i l hi => zx_ne _ _ _ (by omega)) (fun u hu => (h.2.2.1 u hu).of (zx_ne _ _ _ (by omega)))
/-- a try taken back -/
noncomputable def rst (m M : Nat → Nat → Int32) (k t : Nat) (o : Int32) : Nat → Nat → Int32 := zm2 (zm2 (zm2 (zcpy M 133 132 (k * 32) 0 32) 134 t (Int32.ofNat (mv m 134 t))) 135 t (m 135 t)) 131 6 o
theorem rst_j {M : Nat → Nat → Int32} {k : Nat} {o : Int32} (hj : OJ m n5) (h : OJ M n5) (ht : t < 4) : OJ (rst m M k t o) n5 := by
  unfold rst
  refine OJ.far (OJ.far (h.of (fun i l hi => ?_) (fun u hu => ?_)) (by omega) (by omega)) (by omega) (by omega)
  · rw [zx_ne _ _ _ (by omega), zcpy_ne (by omega)]
  · by_cases e : u = t
    · subst e
      exact okm.is (zx_at _ _ _ _) (hj.2.2.1 u hu).2 (by have := (hj.2.2.1 u hu).2; omega)
    · exact (h.2.2.1 u hu).of ((zx_nk _ _ e).trans (zcpy_ne (by omega)))
end ZPP
noncomputable def xl_placeL (k : Nat) (o : Int32) (n5 : Nat) (rec : ((Nat → Nat → Int32) → Int32 × (Nat → Nat → Int32))) : Nat → Nat → (Nat → Nat → Int32) → Int32 × (Nat → Nat → Int32)
  | 0, t, m => ((Int32.ofNat 0), m)
  | n + 1, t, m => (bif zc2 .lt (Int32.ofNat (mv m 134 t)) (Int32.ofNat (mv m (1 + 10 + 7 * t) 2)) then (bif zc1 .eq (x_playPart ((zm2 m 136 k (Int32.ofNat t))) t).1 then (xl_placeL k o n5 rec n ((t + 1)) ((zm2 ((zm2 ((zm2 ((zcpy ((x_playPart ((zm2 m 136 k (Int32.ofNat t))) t).2) 133 132 ((k * 32)) 0 32)) 134 t (Int32.ofNat (mv m 134 t)))) 135 t (m 135 t))) 131 6 o))) else (bif zc1 .eq (rec ((x_playPart ((zm2 m 136 k (Int32.ofNat t))) t).2)).1 then (xl_placeL k o n5 rec n ((t + 1)) ((zm2 ((zm2 ((zm2 ((zcpy ((rec ((x_playPart ((zm2 m 136 k (Int32.ofNat t))) t).2)).2) 133 132 ((k * 32)) 0 32)) 134 t (Int32.ofNat (mv m 134 t)))) 135 t (m 135 t))) 131 6 o))) else ((Int32.ofNat 1), (rec ((x_playPart ((zm2 m 136 k (Int32.ofNat t))) t).2)).2))) else (xl_placeL k o n5 rec n ((t + 1)) m))
theorem xw_placeL {σ : Nat → Nat × (Nat → Int32)} {yy : (Nat → Nat → Int64) × Bool × Nat × Nat} {k : Nat} {o : Int32} {n5 : Nat} {rec : ((Nat → Nat → Int32) → Int32 × (Nat → Nat → Int32))} {hr : Nat} {d : Nat} (hd : 5 ≤ d + 1) (hk9 : k < 10) (hn5 : n5 ≤ 4) (hd2 : hr + 1 ≤ d + 1) (hrec : ∀ m', OJ m' n5 → zF σ hr 804 [.ref 131, .int (Int32.ofNat (k + 1))] (zS1, m', yy) (.inl (some (.int (rec m').1))) (zS1, (rec m').2, yy) ∧ OF3 m' (rec m')) : ∀ (n : Nat) (t : Nat) (x4 : Option Value) (x5 : Option Value) (m : Nat → Nat → Int32), t + n = n5 → OJ m n5 → zEv σ (d + 1) 804 48 [some (.ref 131), some (.int (Int32.ofNat k)), some (.int o), some (.int (Int32.ofNat t)), x4, x5] [] (zS1, m, yy) (.inl (some (.int (xl_placeL k o n5 rec n t m).1))) (zS1, ((xl_placeL k o n5 rec n t m).2), yy) := by
  intro n
  induction n with
  | zero =>
    intro t x4 x5 m hk hj
    refine zeP rfl rfl ?_
    refine zeP rfl rfl ?_
    refine zeGR rfl rfl zS131 rfl rfl ?_
    refine zeGI rfl rfl (shM bb1) rfl rfl ?_
    rw [hj.2.2.2]
    refine zeT2 rfl rfl (zcge (by omega) (by omega) (by omega)) ?_
    refine zeKn (c := 0) rfl rfl rfl ?_
    exact zeRe rfl rfl rfl rfl (by rfl) (by rfl)
  | succ n ih =>
    intro t x4 x5 m hk hj
    refine zeP rfl rfl ?_
    refine zeP rfl rfl ?_
    refine zeGR rfl rfl zS131 rfl rfl ?_
    refine zeGI rfl rfl (shM bb1) rfl rfl ?_
    rw [hj.2.2.2]
    refine zeF2 rfl rfl (zcge_f (by omega) (by omega) (by omega)) ?_
    refine zeP rfl rfl ?_
    refine zeKn (c := 4) rfl rfl rfl ?_
    refine zeF2 rfl rfl (zcge_f (by omega) (by omega) (by omega)) ?_
    refine zeP rfl rfl ?_
    refine zeGR rfl rfl zS131 rfl rfl ?_
    refine zeP rfl rfl ?_
    refine zeAL (k := t) rfl rfl zS134 rfl (by omega) ?_
    rw [(hj.2.2.1 t (by omega)).1]
    refine zeP rfl rfl ?_
    refine zeP rfl rfl ?_
    refine zeGR rfl rfl zS131 rfl rfl ?_
    refine zeP rfl rfl ?_
    refine zeAL (k := t) rfl rfl zS135 rfl (by omega) ?_
    refine zeP rfl rfl ?_
    refine zeP rfl rfl ?_
    refine zeP rfl rfl ?_
    refine zeGR rfl rfl zS131 rfl rfl ?_
    refine zeP rfl rfl ?_
    refine zeCV rfl rfl rfl rfl (shM bb1) rfl (xc_strandAt (m := m) (b := 1) (t := t) bb1 (by omega)) (by omega) ?_
    dsimp only [Option.toList, List.cons_append, List.nil_append]
    refine zeGI rfl rfl (shS bb1 (by omega)) rfl rfl ?_
    rw [(hj.2.1.1 t (by omega)).1.1]
    refine zeB2 rfl rfl (fun h1 => ?_) (fun h1 => ?_)
    · refine zeP rfl rfl ?_
      refine zeGR rfl rfl zS131 rfl rfl ?_
      refine zeP rfl rfl ?_
      refine zeP rfl rfl ?_
      refine zeAS (k := k) rfl zS136 rfl (by omega) ?_
      refine zeP rfl rfl ?_
      refine zeP rfl rfl ?_
      refine zeCV rfl rfl rfl rfl zS131 rfl (xc_playPart (m := (zm2 m 136 k (Int32.ofNat t))) (t := t) (by omega) (hj.far (by omega) (by omega)).1 (hj.far (by omega) (by omega)).2.1 ((hj.far (by omega) (by omega)).2.2.1 t (by omega)) (pl_far (by omega) (zlt_t (by have := (hj.2.2.1 t (by omega)).2; omega) (by have := (hj.2.1.1 t (by omega)).1.2; omega) h1))) (by omega) ?_
      dsimp only [Option.toList, List.cons_append, List.nil_append]
      refine zeB1 rfl rfl (fun h2 => ?_) (fun h2 => ?_)
      · refine zeP rfl rfl ?_
        refine zeGR rfl rfl zS131 rfl rfl ?_
        refine zeP rfl rfl ?_
        refine zeKn (c := 32) rfl rfl rfl ?_
        refine zeMul rfl ?_
        refine zeP rfl rfl ?_
        refine zeGR rfl rfl zS131 rfl rfl ?_
        refine zeKn (c := 0) rfl rfl rfl ?_
        refine zeKn (c := 32) rfl rfl rfl ?_
        refine zeCPY rfl rfl zS133 zS132 (by omega) (by omega) (by omega) (by omega) rfl ?_
        refine zeP rfl rfl ?_
        refine zeGR rfl rfl zS131 rfl rfl ?_
        refine zeP rfl rfl ?_
        refine zeP rfl rfl ?_
        refine zeAS (k := t) rfl zS134 rfl (by omega) ?_
        refine zeP rfl rfl ?_
        refine zeGR rfl rfl zS131 rfl rfl ?_
        refine zeP rfl rfl ?_
        refine zeP rfl rfl ?_
        refine zeAS (k := t) rfl zS135 rfl (by omega) ?_
        refine zeP rfl rfl ?_
        refine zeP rfl rfl ?_
        refine zePI rfl rfl zS131 rfl ?_
        refine zeInc rfl rfl ?_
        refine zeP rfl rfl ?_
        simp only [xl_placeL, h1, h2, cond_true, cond_false]
        exact ih ((t + 1)) (some (.int (Int32.ofNat (mv m 134 t)))) (some (.int (m 135 t)))  ((zm2 ((zm2 ((zm2 ((zcpy ((x_playPart ((zm2 m 136 k (Int32.ofNat t))) t).2) 133 132 ((k * 32)) 0 32)) 134 t (Int32.ofNat (mv m 134 t)))) 135 t (m 135 t))) 131 6 o)) (by omega) (rst_j hj (OF3.j (playPart_o (t := t) (hj.far (a := 136) (k := k) (x := Int32.ofNat t) (by omega) (by omega)) (by omega) (pl_far (by omega) (zlt_t (by have := (hj.2.2.1 t (by omega)).2; omega) (by have := (hj.2.1.1 t (by omega)).1.2; omega) h1))) (hj.far (by omega) (by omega))) (by omega))
      · refine zeP rfl rfl ?_
        refine zeP rfl rfl ?_
        refine zeKn (c := 1) rfl rfl rfl ?_
        refine zeAdd rfl ?_
        refine zeCV rfl rfl rfl rfl zS131 rfl ((hrec ((x_playPart ((zm2 m 136 k (Int32.ofNat t))) t).2) (OF3.j (playPart_o (t := t) (hj.far (a := 136) (k := k) (x := Int32.ofNat t) (by omega) (by omega)) (by omega) (pl_far (by omega) (zlt_t (by have := (hj.2.2.1 t (by omega)).2; omega) (by have := (hj.2.1.1 t (by omega)).1.2; omega) h1))) (hj.far (by omega) (by omega)))).1) (by omega) ?_
        dsimp only [Option.toList, List.cons_append, List.nil_append]
        refine zeB1 rfl rfl (fun h3 => ?_) (fun h3 => ?_)
        · refine zeP rfl rfl ?_
          refine zeGR rfl rfl zS131 rfl rfl ?_
          refine zeP rfl rfl ?_
          refine zeKn (c := 32) rfl rfl rfl ?_
          refine zeMul rfl ?_
          refine zeP rfl rfl ?_
          refine zeGR rfl rfl zS131 rfl rfl ?_
          refine zeKn (c := 0) rfl rfl rfl ?_
          refine zeKn (c := 32) rfl rfl rfl ?_
          refine zeCPY rfl rfl zS133 zS132 (by omega) (by omega) (by omega) (by omega) rfl ?_
          refine zeP rfl rfl ?_
          refine zeGR rfl rfl zS131 rfl rfl ?_
          refine zeP rfl rfl ?_
          refine zeP rfl rfl ?_
          refine zeAS (k := t) rfl zS134 rfl (by omega) ?_
          refine zeP rfl rfl ?_
          refine zeGR rfl rfl zS131 rfl rfl ?_
          refine zeP rfl rfl ?_
          refine zeP rfl rfl ?_
          refine zeAS (k := t) rfl zS135 rfl (by omega) ?_
          refine zeP rfl rfl ?_
          refine zeP rfl rfl ?_
          refine zePI rfl rfl zS131 rfl ?_
          refine zeInc rfl rfl ?_
          refine zeP rfl rfl ?_
          simp only [xl_placeL, h1, h2, h3, cond_true, cond_false]
          exact ih ((t + 1)) (some (.int (Int32.ofNat (mv m 134 t)))) (some (.int (m 135 t)))  ((zm2 ((zm2 ((zm2 ((zcpy ((rec ((x_playPart ((zm2 m 136 k (Int32.ofNat t))) t).2)).2) 133 132 ((k * 32)) 0 32)) 134 t (Int32.ofNat (mv m 134 t)))) 135 t (m 135 t))) 131 6 o)) (by omega) (rst_j hj (OF3.j (hrec _ (OF3.j (playPart_o (t := t) (hj.far (a := 136) (k := k) (x := Int32.ofNat t) (by omega) (by omega)) (by omega) (pl_far (by omega) (zlt_t (by have := (hj.2.2.1 t (by omega)).2; omega) (by have := (hj.2.1.1 t (by omega)).1.2; omega) h1))) (hj.far (by omega) (by omega)))).2 (OF3.j (playPart_o (t := t) (hj.far (a := 136) (k := k) (x := Int32.ofNat t) (by omega) (by omega)) (by omega) (pl_far (by omega) (zlt_t (by have := (hj.2.2.1 t (by omega)).2; omega) (by have := (hj.2.1.1 t (by omega)).1.2; omega) h1))) (hj.far (by omega) (by omega)))) (by omega))
        · refine zeKn (c := 1) rfl rfl rfl ?_
          exact zeRe rfl rfl rfl rfl (by simp only [xl_placeL, h1, h2, h3, cond_true, cond_false] <;> rfl) (by simp only [xl_placeL, h1, h2, h3, cond_true, cond_false] <;> rfl)
    · refine zeP rfl rfl ?_
      refine zeInc rfl rfl ?_
      refine zeP rfl rfl ?_
      simp only [xl_placeL, h1, cond_true, cond_false]
      exact ih ((t + 1)) (some (.int (Int32.ofNat (mv m 134 t)))) (some (.int (m 135 t)))  m (by omega) hj
theorem zclt_f {a b : Nat} (ha : a < 2147483648) (hb : b < 2147483648) (h : b ≤ a) : zc2 .lt (Int32.ofNat a) (Int32.ofNat b) = false := by
  apply decide_eq_false
  rw [Int32.lt_iff_toInt_lt, zoN ha, zoN hb]
  omega
theorem cameL_b {m : Nat → Nat → Int32} : ∀ (n k : Nat), xl_cameL m n k = 0 ∨ xl_cameL m n k = 1 := by
  intro n
  induction n with
  | zero => intro k; exact Or.inr rfl
  | succ n ih => intro k; rw [xl_cameL]; exact cndi (fun X : Int32 => X = 0 ∨ X = 1) (ih _) (Or.inl rfl)
theorem cameOut_b {m : Nat → Nat → Int32} : x_cameOut m = 0 ∨ x_cameOut m = 1 := by
  unfold x_cameOut
  exact cndi (fun X : Int32 => X = 0 ∨ X = 1) (cameL_b _ _) (Or.inl rfl)
noncomputable def x_placeE (m : Nat → Nat → Int32) (k : Nat) : Int32 := (bif zc2 .ge (Int32.ofNat k) (m 131 7) then (x_cameOut m) else (x_cameOut m))
theorem xp_placeE {σ : Nat → Nat × (Nat → Int32)} {yy : (Nat → Nat → Int64) × Bool × Nat × Nat} {m : Nat → Nat → Int32} {k : Nat} {d : Nat} (hd : 2 ≤ d + 1) (hk10 : k = 10) : zEv σ (d + 1) 804 0 [some (.ref 131), some (.int (Int32.ofNat k)), none, none, none, none] [] (zS1, m, yy) (.inl (some (.int (x_placeE m k)))) (zS1, m, yy) := by
  refine zeP rfl rfl ?_
  refine zeF1 rfl rfl (c1lt (by omega)) ?_
  refine zeP rfl rfl ?_
  refine zeP rfl rfl ?_
  refine zeGI rfl rfl zS131 rfl rfl ?_
  refine zeB2 rfl rfl (fun h1 => ?_) (fun h1 => ?_)
  · refine zeP rfl rfl ?_
    refine zeCV rfl rfl rfl rfl zS131 rfl (xc_cameOut (m := m)  ) (by omega) ?_
    dsimp only [Option.toList, List.cons_append, List.nil_append]
    exact zeRe rfl rfl rfl (zretB rfl rfl cameOut_b) (by simp only [x_placeE, h1, cond_true, cond_false] <;> rfl) (by simp only [x_placeE, h1, cond_true, cond_false] <;> rfl)
  · refine zeP rfl rfl ?_
    refine zeKn (c := 10) rfl rfl rfl ?_
    refine zeF2 rfl rfl (zclt_f (by omega) (by omega) (by omega)) ?_
    refine zeP rfl rfl ?_
    refine zeCV rfl rfl rfl rfl zS131 rfl (xc_cameOut (m := m)  ) (by omega) ?_
    dsimp only [Option.toList, List.cons_append, List.nil_append]
    exact zeRe rfl rfl rfl (zretB rfl rfl cameOut_b) (by simp only [x_placeE, h1, cond_true, cond_false] <;> rfl) (by simp only [x_placeE, h1, cond_true, cond_false] <;> rfl)
theorem OJ.cpy {m : Nat → Nat → Int32} {n5 k : Nat} (h : OJ m n5) : OJ (zcpy m 132 133 0 (k * 32) 32) n5 := h.of (fun i l hi => zcpy_ne (by omega)) (fun u hu => (h.2.2.1 u hu).of (zcpy_ne (by omega)))
noncomputable def x_placeN (m : Nat → Nat → Int32) (k : Nat) (n5 : Nat) (rec : ((Nat → Nat → Int32) → Int32 × (Nat → Nat → Int32))) : Int32 × (Nat → Nat → Int32) := (bif zc2 .ge (Int32.ofNat k) (m 131 7) then ((x_cameOut m), m) else (xl_placeL k ((((zcpy m 132 133 0 ((k * 32)) 32)) 131 6)) n5 rec n5 0 ((zcpy m 132 133 0 ((k * 32)) 32))))
theorem xp_placeN {σ : Nat → Nat × (Nat → Int32)} {yy : (Nat → Nat → Int64) × Bool × Nat × Nat} {m : Nat → Nat → Int32} {k : Nat} {n5 : Nat} {rec : ((Nat → Nat → Int32) → Int32 × (Nat → Nat → Int32))} {hr : Nat} {d : Nat} (hd : 5 ≤ d + 1) (hk9 : k < 10) (hn5 : n5 ≤ 4) (hd2 : hr + 1 ≤ d + 1) (hrec : ∀ m', OJ m' n5 → zF σ hr 804 [.ref 131, .int (Int32.ofNat (k + 1))] (zS1, m', yy) (.inl (some (.int (rec m').1))) (zS1, (rec m').2, yy) ∧ OF3 m' (rec m')) (hj : OJ m n5) : zEv σ (d + 1) 804 0 [some (.ref 131), some (.int (Int32.ofNat k)), none, none, none, none] [] (zS1, m, yy) (.inl (some (.int (x_placeN m k n5 rec).1))) (zS1, ((x_placeN m k n5 rec).2), yy) := by
  refine zeP rfl rfl ?_
  refine zeF1 rfl rfl (c1lt (by omega)) ?_
  refine zeP rfl rfl ?_
  refine zeP rfl rfl ?_
  refine zeGI rfl rfl zS131 rfl rfl ?_
  refine zeB2 rfl rfl (fun h1 => ?_) (fun h1 => ?_)
  · refine zeP rfl rfl ?_
    refine zeCV rfl rfl rfl rfl zS131 rfl (xc_cameOut (m := m)  ) (by omega) ?_
    dsimp only [Option.toList, List.cons_append, List.nil_append]
    exact zeRe rfl rfl rfl (zretB rfl rfl cameOut_b) (by simp only [x_placeN, h1, cond_true, cond_false] <;> rfl) (by simp only [x_placeN, h1, cond_true, cond_false] <;> rfl)
  · refine zeP rfl rfl ?_
    refine zeKn (c := 10) rfl rfl rfl ?_
    refine zeT2 rfl rfl (zclt (by omega) (by omega) (by omega)) ?_
    refine zeP rfl rfl ?_
    refine zeGR rfl rfl zS131 rfl rfl ?_
    refine zeKn (c := 0) rfl rfl rfl ?_
    refine zeP rfl rfl ?_
    refine zeGR rfl rfl zS131 rfl rfl ?_
    refine zeP rfl rfl ?_
    refine zeKn (c := 32) rfl rfl rfl ?_
    refine zeMul rfl ?_
    refine zeKn (c := 32) rfl rfl rfl ?_
    refine zeCPY rfl rfl zS132 zS133 (by omega) (by omega) (by omega) (by omega) rfl ?_
    refine zeP rfl rfl ?_
    refine zeGI rfl rfl zS131 rfl rfl ?_
    refine zeP rfl rfl ?_
    refine zeKn (c := 0) rfl rfl rfl ?_
    refine zeP rfl rfl ?_
    simp only [x_placeN, h1, cond_true, cond_false]
    exact xw_placeL (k := k) (o := (((zcpy m 132 133 0 ((k * 32)) 32)) 131 6)) (n5 := n5) (rec := rec) (hr := hr) (by omega) hk9 hn5 hd2 hrec n5 (0) (none) (none)  ((zcpy m 132 133 0 ((k * 32)) 32)) (by omega) (hj.cpy)
end
section
noncomputable def x_pf (n5 : Nat) : Nat → Nat → (Nat → Nat → Int32) → Int32 × (Nat → Nat → Int32)
  | 0, _, m => (x_cameOut m, m)
  | n + 1, k, m => x_placeN m k n5 (x_pf n5 n (k + 1))
noncomputable def OG (m M : Nat → Nat → Int32) : Prop := (∀ i l, i < 131 ∨ 137 ≤ i → M i l = m i l) ∧ ∀ l, l ≠ 6 → M 131 l = m 131 l
section ZPF
variable {m M M2 : Nat → Nat → Int32} {k t n5 : Nat} {o : Int32} {X : Int32 × (Nat → Nat → Int32)}
theorem OG.rf : OG m m := ⟨fun _ _ _ => rfl, fun _ _ => rfl⟩
theorem OG.tr (h : OG m M) (h2 : OG M M2) : OG m M2 := ⟨fun i l hi => (h2.1 i l hi).trans (h.1 i l hi), fun l hl => (h2.2 l hl).trans (h.2 l hl)⟩
theorem OF3.g (h : OF3 m X) : OG m X.2 := ⟨h.2.1, h.2.2.1⟩
theorem OF3.tr (h : OG m M) (h2 : OF3 M X) : OF3 m X := ⟨h2.1, (h.tr h2.g).1, (h.tr h2.g).2, h2.2.2.2⟩
theorem OG.put {a l : Nat} {x : Int32} (h : OG m M) (ha : 131 ≤ a ∧ a < 137 ∧ (a ≠ 131 ∨ l = 6)) : OG m (zm2 M a l x) := h.tr ⟨fun i q hi => zx_ne _ _ _ (by omega), fun q hq => zx_o _ _ (by omega)⟩
theorem OG.cp {a0 a1 s p n : Nat} (h : OG m M) (ha : 132 ≤ a1 ∧ a1 < 137) : OG m (zcpy M a0 a1 s p n) := h.tr ⟨fun i q hi => zcpy_ne (by omega), fun q hq => zcpy_ne (by omega)⟩
theorem rst_g {m' : Nat → Nat → Int32} (h : OG m' M) : OG m' (rst m M k t o) := by
  unfold rst
  exact (((h.cp ⟨by omega, by omega⟩).put ⟨by omega, by omega, by omega⟩).put ⟨by omega, by omega, by omega⟩).put ⟨by omega, by omega, by omega⟩
theorem placeL_o {rec : (Nat → Nat → Int32) → Int32 × (Nat → Nat → Int32)} (hn5 : n5 ≤ 4) (hrec : ∀ m', OJ m' n5 → OF3 m' (rec m')) : ∀ (n t : Nat) (m : Nat → Nat → Int32), t + n = n5 → OJ m n5 → OF3 m (xl_placeL k o n5 rec n t m) := by
  intro n
  induction n with
  | zero => intro t m ht hj; exact ⟨Or.inl rfl, OG.rf.1, OG.rf.2, hj.2.2.1⟩
  | succ n ih =>
    intro t m htn hj
    rw [xl_placeL]
    refine cnd4 (OF3 m) (fun h1 => ?_) (fun _ => ih (t + 1) m (by omega) hj)
    have hpl := zlt_t (by have := (hj.2.2.1 t (by omega)).2; omega) (by have := (hj.2.1.1 t (by omega)).1.2; omega) h1
    have hj1 : OJ (zm2 m 136 k (Int32.ofNat t)) n5 := hj.far (by omega) (by omega)
    have g1 : OG m (zm2 m 136 k (Int32.ofNat t)) := OG.rf.put ⟨by omega, by omega, by omega⟩
    have pp := playPart_o (t := t) hj1 (by omega) (pl_far (by omega) hpl)
    generalize x_playPart (zm2 m 136 k (Int32.ofNat t)) t = Y at pp ⊢
    have hY := pp.j hj1
    have gY := g1.tr pp.g
    refine cnd4 (OF3 m) (fun _ => ?_) (fun _ => ?_)
    · exact OF3.tr (rst_g (m := m) (k := k) (t := t) (o := o) gY) (ih (t + 1) _ (by omega) (rst_j hj hY (by omega)))
    · have hr := hrec _ hY
      generalize rec Y.2 = Z at hr ⊢
      have gZ := gY.tr hr.g
      exact cnd4 (OF3 m) (fun _ => OF3.tr (rst_g (m := m) (k := k) (t := t) (o := o) gZ) (ih (t + 1) _ (by omega) (rst_j hj (hr.j hY) (by omega)))) (fun _ => ⟨Or.inr rfl, gZ.1, gZ.2, hr.2.2.2⟩)
theorem pf_ok {σ : Nat → Nat × (Nat → Int32)} {yy : (Nat → Nat → Int64) × Bool × Nat × Nat} (hn5 : n5 ≤ 4) : ∀ (n k : Nat), k + n = 10 → ∀ m, OJ m n5 → zF σ (n + 5) 804 [.ref 131, .int (Int32.ofNat k)] (zS1, m, yy) (.inl (some (.int (x_pf n5 n k m).1))) (zS1, (x_pf n5 n k m).2, yy) ∧ OF3 m (x_pf n5 n k m) := by
  intro n
  induction n with
  | zero =>
    intro k hk m hj
    refine ⟨fun d hd => ?_, cameOut_b, OG.rf.1, OG.rf.2, hj.2.2.1⟩
    obtain ⟨d, rfl⟩ : ∃ k, d = k + 1 := ⟨d - 1, by omega⟩
    have h := xp_placeE (σ := σ) (yy := yy) (m := m) (k := k) (d := d) (by omega) (by omega)
    have e : x_placeE m k = x_cameOut m := by
      unfold x_placeE
      exact cndi (fun q : Int32 => q = x_cameOut m) rfl rfl
    rw [e] at h
    exact h
  | succ n ih =>
    intro k hk m hj
    refine ⟨fun d hd => ?_, ?_⟩
    · obtain ⟨d, rfl⟩ : ∃ k, d = k + 1 := ⟨d - 1, by omega⟩
      exact xp_placeN (hr := n + 5) (by omega) (by omega) hn5 (by omega) (ih (k + 1) (by omega)) hj
    · show OF3 m (x_placeN m k n5 (x_pf n5 n (k + 1)))
      unfold x_placeN
      have hrec : ∀ m', OJ m' n5 → OF3 m' (x_pf n5 n (k + 1) m') := fun m' h => (ih (k + 1) (by omega) m' h).2
      exact cnd4 (OF3 m) (fun _ => ⟨cameOut_b, OG.rf.1, OG.rf.2, hj.2.2.1⟩) (fun _ => OF3.tr (OG.rf.cp ⟨by omega, by omega⟩) (placeL_o hn5 hrec _ _ _ (by omega) hj.cpy))
theorem OJ.p0 {x : Int32} (h : OJ m n5) (ht : t < 4) : OJ (zm2 (zm2 (zm2 m 131 7 x) 134 t (Int32.ofNat 0)) 135 t (Int32.ofNat 0)) n5 := by
  refine OJ.far (OJ.of (h.far (a := 131) (k := 7) (x := x) (by omega) (by omega)) (fun i l hi => zx_ne _ _ _ (by omega)) (fun u hu => ?_)) (by omega) (by omega)
  by_cases e : u = t
  · subst e
    exact okm.is (zx_at _ _ _ _) (by omega) (by omega)
  · exact (h.2.2.1 u hu).of ((zx_nk _ _ e).trans (zx_ne _ _ _ (by omega)))
theorem OJ.told (h : OJ m n5) : OJ (zcpy (zm2 m 131 6 (Int32.ofNat 0)) (1 + 2) 132 0 0 32) n5 := OJ.of (h.far (a := 131) (k := 6) (x := Int32.ofNat 0) (by omega) (by omega)) (fun i l hi => zcpy_ne (by omega)) (fun u hu => ((h.far (a := 131) (k := 6) (x := Int32.ofNat 0) (by omega) (by omega)).2.2.1 u hu).of (zcpy_ne (by omega)))
end ZPF
noncomputable def xl_searchL (n5 : Nat) : Nat → Nat → (Nat → Nat → Int32) → (Nat → Nat → Int32)
  | 0, t, m => (bif zc2 .gt (m 131 7) (Int32.ofNat 10) then m else (bif zc1 .ne (x_mDoneX m 1) then (zm2 ((x_pf n5 10 0 ((zcpy ((zm2 m 131 6 (Int32.ofNat 0))) ((1 + 2)) 132 0 0 32))).2) 131 9 (x_pf n5 10 0 ((zcpy ((zm2 m 131 6 (Int32.ofNat 0))) ((1 + 2)) 132 0 0 32))).1) else m))
  | n + 1, t, m => (xl_searchL n5 n ((t + 1)) ((zm2 ((zm2 ((zm2 m 131 7 ((m 131 7) + (x_partCount m 1 t)))) 134 t (Int32.ofNat 0))) 135 t (Int32.ofNat 0))))
theorem xw_searchL {σ : Nat → Nat × (Nat → Int32)} {yy : (Nat → Nat → Int64) × Bool × Nat × Nat} {n5 : Nat} {d : Nat} (hd : 16 ≤ d + 1) (hn5 : n5 ≤ 4) : ∀ (n : Nat) (t : Nat) (m : Nat → Nat → Int32), t + n = n5 → OJ m n5 → zEv σ (d + 1) 803 17 [some (.ref 131), some (.int (Int32.ofNat t))] [] (zS1, m, yy) (.inl none) (zS1, ((xl_searchL n5 n t m)), yy) := by
  intro n
  induction n with
  | zero =>
    intro t m hk hj
    refine zeP rfl rfl ?_
    refine zeP rfl rfl ?_
    refine zeGR rfl rfl zS131 rfl rfl ?_
    refine zeGI rfl rfl (shM bb1) rfl rfl ?_
    rw [hj.2.2.2]
    refine zeT2 rfl rfl (zcge (by omega) (by omega) (by omega)) ?_
    refine zeP rfl rfl ?_
    refine zeGI rfl rfl zS131 rfl rfl ?_
    refine zeKn (c := 10) rfl rfl rfl ?_
    refine zeB2 rfl rfl (fun h1 => ?_) (fun h1 => ?_)
    · exact zeRe rfl rfl rfl rfl (by simp only [xl_searchL, h1, cond_true, cond_false] <;> rfl) (by simp only [xl_searchL, h1, cond_true, cond_false] <;> rfl)
    · refine zeP rfl rfl ?_
      refine zeGR rfl rfl zS131 rfl rfl ?_
      refine zeK (v := -1) rfl rfl rfl ?_
      refine zeCV rfl rfl rfl rfl (shM bb1) rfl (xc_mDoneX (m := m) (b := 1) bb1 hj.1 hj.2.1.2.1) (by omega) ?_
      dsimp only [Option.toList, List.cons_append, List.nil_append]
      refine zeB1 rfl rfl (fun h2 => ?_) (fun h2 => ?_)
      · refine zeP rfl rfl ?_
        refine zeKn (c := 0) rfl rfl rfl ?_
        refine zePI rfl rfl zS131 rfl ?_
        refine zeP rfl rfl ?_
        refine zeGR rfl rfl zS131 rfl rfl ?_
        refine zeGR rfl rfl (shM bb1) rfl rfl ?_
        refine zeKn (c := 0) rfl rfl rfl ?_
        refine zeP rfl rfl ?_
        refine zeGR rfl rfl zS131 rfl rfl ?_
        refine zeKn (c := 0) rfl rfl rfl ?_
        refine zeKn (c := 32) rfl rfl rfl ?_
        refine zeCPY rfl rfl (shT bb1) zS132 (by omega) (by omega) (by omega) (by omega) rfl ?_
        refine zeP rfl rfl ?_
        refine zeP rfl rfl ?_
        refine zeKn (c := 0) rfl rfl rfl ?_
        refine zeCV rfl rfl rfl rfl zS131 rfl ((pf_ok hn5 10 0 rfl ((zcpy ((zm2 m 131 6 (Int32.ofNat 0))) ((1 + 2)) 132 0 0 32)) hj.told).1) (by omega) ?_
        dsimp only [Option.toList, List.cons_append, List.nil_append]
        refine zePB rfl rfl zS131 rfl (pf_ok (σ := σ) (yy := yy) hn5 10 0 rfl _ hj.told).2.1 ?_
        exact zeRe rfl rfl rfl rfl (by simp only [xl_searchL, h1, h2, cond_true, cond_false] <;> rfl) (by simp only [xl_searchL, h1, h2, cond_true, cond_false] <;> rfl)
      · exact zeRe rfl rfl rfl rfl (by simp only [xl_searchL, h1, h2, cond_true, cond_false] <;> rfl) (by simp only [xl_searchL, h1, h2, cond_true, cond_false] <;> rfl)
  | succ n ih =>
    intro t m hk hj
    refine zeP rfl rfl ?_
    refine zeP rfl rfl ?_
    refine zeGR rfl rfl zS131 rfl rfl ?_
    refine zeGI rfl rfl (shM bb1) rfl rfl ?_
    rw [hj.2.2.2]
    refine zeF2 rfl rfl (zcge_f (by omega) (by omega) (by omega)) ?_
    refine zeP rfl rfl ?_
    refine zeKn (c := 4) rfl rfl rfl ?_
    refine zeF2 rfl rfl (zcge_f (by omega) (by omega) (by omega)) ?_
    refine zeP rfl rfl ?_
    refine zeP rfl rfl ?_
    refine zeGI rfl rfl zS131 rfl rfl ?_
    refine zeP rfl rfl ?_
    refine zeGR rfl rfl zS131 rfl rfl ?_
    refine zeP rfl rfl ?_
    refine zeCV rfl rfl rfl rfl (shM bb1) rfl (xc_strandAt (m := m) (b := 1) (t := t) bb1 (by omega)) (by omega) ?_
    dsimp only [Option.toList, List.cons_append, List.nil_append]
    refine zeCV rfl rfl rfl rfl (shS bb1 (by omega)) rfl (xc_partCount (m := m) (b := 1) (t := t) bb1 (by omega) (hj.2.1.1 t (by omega))) (by omega) ?_
    dsimp only [Option.toList, List.cons_append, List.nil_append]
    refine zeP rfl rfl ?_
    refine zePI rfl rfl zS131 rfl ?_
    refine zeP rfl rfl ?_
    refine zeGR rfl rfl zS131 rfl rfl ?_
    refine zeP rfl rfl ?_
    refine zeKn (c := 0) rfl rfl rfl ?_
    refine zeAS (k := t) rfl zS134 rfl (by omega) ?_
    refine zeP rfl rfl ?_
    refine zeGR rfl rfl zS131 rfl rfl ?_
    refine zeP rfl rfl ?_
    refine zeKn (c := 0) rfl rfl rfl ?_
    refine zeAS (k := t) rfl zS135 rfl (by omega) ?_
    refine zeInc rfl rfl ?_
    refine zeP rfl rfl ?_
    simp only [xl_searchL, cond_true, cond_false]
    exact ih ((t + 1))  ((zm2 ((zm2 ((zm2 m 131 7 ((m 131 7) + (x_partCount m 1 t)))) 134 t (Int32.ofNat 0))) 135 t (Int32.ofNat 0))) (by omega) (hj.p0 (by omega))
noncomputable def x_search (m : Nat → Nat → Int32) (n5 : Nat) : (Nat → Nat → Int32) := (xl_searchL n5 n5 0 ((zm2 ((zm2 ((zm2 m 131 8 (Int32.ofNat 1))) 131 9 (Int32.ofNat 0))) 131 7 (Int32.ofNat 0))))
theorem xp_search {σ : Nat → Nat × (Nat → Int32)} {yy : (Nat → Nat → Int64) × Bool × Nat × Nat} {m : Nat → Nat → Int32} {n5 : Nat} {d : Nat} (hd : 16 ≤ d + 1) (hn5 : n5 ≤ 4) (hj : OJ m n5) : zEv σ (d + 1) 803 0 [some (.ref 131), none] [] (zS1, m, yy) (.inl none) (zS1, ((x_search m n5)), yy) := by
  refine zeP rfl rfl ?_
  refine zeKn (c := 1) rfl rfl rfl ?_
  refine zePB rfl rfl zS131 rfl (by decide) ?_
  refine zeP rfl rfl ?_
  refine zeKn (c := 0) rfl rfl rfl ?_
  refine zePB rfl rfl zS131 rfl (by decide) ?_
  refine zeP rfl rfl ?_
  refine zeKn (c := 0) rfl rfl rfl ?_
  refine zePI rfl rfl zS131 rfl ?_
  refine zeKn (c := 0) rfl rfl rfl ?_
  refine zeP rfl rfl ?_
  simp only [x_search, cond_true, cond_false]
  exact xw_searchL (n5 := n5) (by omega) hn5 n5 (0)  ((zm2 ((zm2 ((zm2 m 131 8 (Int32.ofNat 1))) 131 9 (Int32.ofNat 0))) 131 7 (Int32.ofNat 0))) (by omega) (((hj.far (by omega) (by omega)).far (by omega) (by omega)).far (by omega) (by omega))
theorem xc_search {σ : Nat → Nat × (Nat → Int32)} {yy : (Nat → Nat → Int64) × Bool × Nat × Nat} {m : Nat → Nat → Int32} {n5 : Nat} (hn5 : n5 ≤ 4) (hj : OJ m n5) : zF σ 16 803 [.ref 131] (zS1, m, yy) (.inl none) (zS1, ((x_search m n5)), yy) := by
  intro d hd
  obtain ⟨d, rfl⟩ : ∃ k, d = k + 1 := ⟨d - 1, by omega⟩
  exact xp_search hd hn5 hj
noncomputable def x_threadOf (m : Nat → Nat → Int32) (k : Int32) : Int32 := (bif zc1 .eq (m 131 9) then (-1) else (bif zc1 .lt k then (-1) else (bif zc2 .ge k (m 131 7) then (-1) else (bif zc2 .ge k (Int32.ofNat 10) then (-1) else (m 136 ((k.toNatClampNeg)))))))
theorem xp_threadOf {σ : Nat → Nat × (Nat → Int32)} {yy : (Nat → Nat → Int64) × Bool × Nat × Nat} {m : Nat → Nat → Int32} {k : Int32} {d : Nat} (hd : 1 ≤ d + 1) : zEv σ (d + 1) 802 0 [some (.ref 131), some (.int k)] [] (zS1, m, yy) (.inl (some (.int (x_threadOf m k)))) (zS1, m, yy) := by
  refine zeP rfl rfl ?_
  refine zeGI rfl rfl zS131 rfl rfl ?_
  refine zeB1 rfl rfl (fun h1 => ?_) (fun h1 => ?_)
  · refine zeK (v := -1) rfl rfl rfl ?_
    exact zeRe rfl rfl rfl rfl (by simp only [x_threadOf, h1, cond_true, cond_false] <;> rfl) (by simp only [x_threadOf, h1, cond_true, cond_false] <;> rfl)
  · refine zeP rfl rfl ?_
    refine zeB1 rfl rfl (fun h2 => ?_) (fun h2 => ?_)
    · refine zeK (v := -1) rfl rfl rfl ?_
      exact zeRe rfl rfl rfl rfl (by simp only [x_threadOf, h1, h2, cond_true, cond_false] <;> rfl) (by simp only [x_threadOf, h1, h2, cond_true, cond_false] <;> rfl)
    · refine zeP rfl rfl ?_
      refine zeP rfl rfl ?_
      refine zeGI rfl rfl zS131 rfl rfl ?_
      refine zeB2 rfl rfl (fun h3 => ?_) (fun h3 => ?_)
      · refine zeK (v := -1) rfl rfl rfl ?_
        exact zeRe rfl rfl rfl rfl (by simp only [x_threadOf, h1, h2, h3, cond_true, cond_false] <;> rfl) (by simp only [x_threadOf, h1, h2, h3, cond_true, cond_false] <;> rfl)
      · refine zeP rfl rfl ?_
        refine zeKn (c := 10) rfl rfl rfl ?_
        refine zeB2 rfl rfl (fun h4 => ?_) (fun h4 => ?_)
        · refine zeK (v := -1) rfl rfl rfl ?_
          exact zeRe rfl rfl rfl rfl (by simp only [x_threadOf, h1, h2, h3, h4, cond_true, cond_false] <;> rfl) (by simp only [x_threadOf, h1, h2, h3, h4, cond_true, cond_false] <;> rfl)
        · have ck : k = Int32.ofNat k.toNatClampNeg ∧ k.toNatClampNeg < 10 := (ige_of (by omega) (by assumption) (by assumption))
          refine zeP rfl rfl ?_
          refine zeGR rfl rfl zS131 rfl rfl ?_
          refine zeKn (c := k.toNatClampNeg) rfl rfl ck.1 ?_
          refine zeAL (k := (k.toNatClampNeg)) rfl rfl zS136 rfl ck.2 ?_
          refine zeP rfl rfl ?_
          exact zeRe rfl rfl rfl rfl (by simp only [x_threadOf, h1, h2, h3, h4, cond_true, cond_false] <;> rfl) (by simp only [x_threadOf, h1, h2, h3, h4, cond_true, cond_false] <;> rfl)
theorem xc_threadOf {σ : Nat → Nat × (Nat → Int32)} {yy : (Nat → Nat → Int64) × Bool × Nat × Nat} {m : Nat → Nat → Int32} {k : Int32} : zF σ 1 802 [.ref 131, .int k] (zS1, m, yy) (.inl (some (.int (x_threadOf m k)))) (zS1, m, yy) := by
  intro d hd
  obtain ⟨d, rfl⟩ : ∃ k, d = k + 1 := ⟨d - 1, by omega⟩
  exact xp_threadOf hd 
noncomputable def e_serial (m : Nat → Nat → Int32) (k : Int32) (n5 : Nat) : Int32 × (Nat → Nat → Int32) := (bif zc1 .ne (m 131 8) then ((x_threadOf m k), m) else ((x_threadOf ((x_search m n5)) k), (x_search m n5)))
theorem ec_serial {σ : Nat → Nat × (Nat → Int32)} {yy : (Nat → Nat → Int64) × Bool × Nat × Nat} {m : Nat → Nat → Int32} {k : Int32} {n5 : Nat} (hn5 : n5 ≤ 4) (hj : OJ m n5) : zF σ 17 1630 [.ref 0, .int k] (zS1, m, yy) (.inl (some (.int (e_serial m k n5).1))) (zS1, (e_serial m k n5).2, yy) := by
  intro d hd
  obtain ⟨d, rfl⟩ : ∃ k, d = k + 1 := ⟨d - 1, by omega⟩
  show zEv σ (d + 1) 1630 0 [some (.ref 0), some (.int k)] [] _ _ _
  refine zeP rfl rfl ?_
  refine zeGR rfl rfl zS00 rfl rfl ?_
  refine zeGI rfl rfl zS131 rfl rfl ?_
  refine zeB1 rfl rfl (fun h1 => ?_) (fun h1 => ?_)
  · refine zeP rfl rfl ?_
    refine zeGR rfl rfl zS00 rfl rfl ?_
    refine zeP rfl rfl ?_
    refine zeCV rfl rfl rfl rfl zS131 rfl (xc_threadOf (m := m) (k := k) ) (by omega) ?_
    dsimp only [Option.toList, List.cons_append, List.nil_append]
    exact zeRe rfl rfl rfl rfl (by simp only [e_serial, h1, cond_true, cond_false] <;> rfl) (by simp only [e_serial, h1, cond_true, cond_false] <;> rfl)
  · refine zeP rfl rfl ?_
    refine zeGR rfl rfl zS00 rfl rfl ?_
    refine zeCV rfl rfl rfl rfl zS131 rfl (xc_search (m := m) (n5 := n5) hn5 hj) (by omega) ?_
    dsimp only [Option.toList, List.cons_append, List.nil_append]
    refine zeP rfl rfl ?_
    refine zeGR rfl rfl zS00 rfl rfl ?_
    refine zeP rfl rfl ?_
    refine zeCV rfl rfl rfl rfl zS131 rfl (xc_threadOf (m := (x_search m n5)) (k := k) ) (by omega) ?_
    dsimp only [Option.toList, List.cons_append, List.nil_append]
    exact zeRe rfl rfl rfl rfl (by simp only [e_serial, h1, cond_true, cond_false] <;> rfl) (by simp only [e_serial, h1, cond_true, cond_false] <;> rfl)
end
section
/-! the class's Writer: it comes back, and keeps to its own -/
noncomputable def WF (m m' : Nat → Nat → Int32) : Prop := (∀ i l, i ≠ 129 → i ≠ 130 → m' i l = m i l) ∧ okm m' 129 1 400
theorem WF.rf {m : Nat → Nat → Int32} (h : okm m 129 1 400) : WF m m := ⟨fun _ _ _ _ => rfl, h⟩
theorem WF.tr {a b c : Nat → Nat → Int32} (h : WF a b) (g : WF b c) : WF a c := ⟨fun i l h1 h2 => (g.1 i l h1 h2).trans (h.1 i l h1 h2), g.2⟩
section ZWR
variable {σ : Nat → Nat × (Nat → Int32)} {yy : (Nat → Nat → Int64) × Bool × Nat × Nat} {m : Nat → Nat → Int32}
theorem wc_putByte (hw : okm m 129 1 400) (x : Int32) : ∃ m', WF m m' ∧ zF σ 1 1403 [.ref 129, .int x] (zS1, m, yy) (.inl none) (zS1, m', yy) := by
  cases hg : zc2 .ge (Int32.ofNat (mv m 129 1)) (Int32.ofNat 400) with
  | true =>
    refine ⟨m, WF.rf hw, fun d hd => ?_⟩
    obtain ⟨d, rfl⟩ : ∃ k, d = k + 1 := ⟨d - 1, by omega⟩
    show zEv σ (d + 1) 1403 0 [some (.ref 129), some (.int x)] [] _ _ _
    refine zeP rfl rfl ?_
    refine zeGI rfl rfl zS129 rfl rfl ?_
    rw [hw.1]
    refine zeKn (c := 400) rfl rfl rfl ?_
    refine zeT2 rfl rfl hg ?_
    exact zeRe rfl rfl rfl rfl rfl rfl
  | false =>
    have hlt : mv m 129 1 < 400 := zge_lt (by have := hw.2; omega) (by omega) hg
    refine ⟨zm2 (zm2 m 130 (mv m 129 1) (vp_nar .byte (x.toInt8.toInt32))) 129 1 (Int32.ofNat (mv m 129 1 + 1)), ⟨fun i l h1 h2 => ?_, okm.is (zx_at _ _ _ _) (by omega) (by omega)⟩, fun d hd => ?_⟩
    · rw [zx_ne _ _ _ h1, zx_ne _ _ _ h2]
    · obtain ⟨d, rfl⟩ : ∃ k, d = k + 1 := ⟨d - 1, by omega⟩
      show zEv σ (d + 1) 1403 0 [some (.ref 129), some (.int x)] [] _ _ _
      refine zeP rfl rfl ?_
      refine zeGI rfl rfl zS129 rfl rfl ?_
      rw [hw.1]
      refine zeKn (c := 400) rfl rfl rfl ?_
      refine zeF2 rfl rfl hg ?_
      refine zeP rfl rfl ?_
      refine zeGR rfl rfl zS129 rfl rfl ?_
      refine zeP rfl rfl ?_
      refine zeGI rfl rfl zS129 rfl rfl ?_
      rw [hw.1]
      refine zeP rfl rfl ?_
      refine zeP rfl rfl ?_
      refine zeBS (k := mv m 129 1) rfl zS130 rfl hlt ?_
      refine zeP rfl rfl ?_
      refine zeP rfl rfl ?_
      refine zeGI rfl rfl zS129 rfl rfl ?_
      rw [zx_ne _ _ _ (show (129 : Nat) ≠ 130 by decide), hw.1]
      refine zeKn (c := 1) rfl rfl rfl ?_
      refine zeAdd rfl ?_
      refine zePI rfl rfl zS129 rfl ?_
      exact zeRe rfl rfl rfl rfl rfl rfl
theorem ww_name {s : Nat} {k : Int32} (hs : s < 37) : ∀ (n c : Nat) (nm : Int32) (m : Nat → Nat → Int32), c + n = (zby s).length → okm m 129 1 400 → ∃ m', WF m m' ∧ ∀ d, 1 ≤ d → zEv σ (d + 1) 1404 5 [some (.ref 129), some (.ref (1100 + s)), some (.int k), some (.int nm), some (.int (Int32.ofNat c))] [] (zS1, m, yy) (.inl none) (zS1, m', yy) := by
  have hl := zby_len s hs
  intro n
  induction n with
  | zero =>
    intro c nm m hc hw
    obtain ⟨m1, a1, b1⟩ := wc_putByte (σ := σ) (yy := yy) hw (Int32.ofNat 32)
    refine ⟨m1, a1, fun d hd => ?_⟩
    refine zeP rfl rfl ?_
    refine zeP rfl rfl ?_
    refine zeLn hs rfl rfl rfl rfl rfl ?_
    refine zeT2 rfl rfl (zcge (by omega) (by omega) (by omega)) ?_
    refine zeP rfl rfl ?_
    refine zeKn (c := 32) rfl rfl rfl ?_
    refine zeCV rfl rfl rfl rfl zS129 rfl b1 hd ?_
    dsimp only [Option.toList, List.cons_append, List.nil_append]
    exact zeRe rfl rfl rfl rfl rfl rfl
  | succ n ih =>
    intro c nm m hc hw
    cases h1 : zc2 .ne ((zby s).getD c 0) (Int32.ofNat 32) with
    | false =>
      obtain ⟨m2, a2, b2⟩ := ih (c + 1) (nm + Int32.ofInt 1) m (by omega) hw
      refine ⟨m2, a2, fun d hd => ?_⟩
      refine zeP rfl rfl ?_
      refine zeP rfl rfl ?_
      refine zeLn hs rfl rfl rfl rfl rfl ?_
      refine zeF2 rfl rfl (zcge_f (by omega) (by omega) (by omega)) ?_
      refine zeP rfl rfl ?_
      refine zeP rfl rfl ?_
      refine zeCh hs (by omega) rfl rfl rfl rfl rfl ?_
      refine zeKn (c := 32) rfl rfl rfl ?_
      refine zeF2 rfl rfl h1 ?_
      refine zeP rfl rfl ?_
      refine zeP rfl rfl ?_
      refine zeInc rfl rfl ?_
      refine zeP rfl rfl ?_
      exact b2 d hd
    | true =>
      cases h2 : zc2 .ne nm k with
      | true =>
        obtain ⟨m2, a2, b2⟩ := ih (c + 1) nm m (by omega) hw
        refine ⟨m2, a2, fun d hd => ?_⟩
        refine zeP rfl rfl ?_
        refine zeP rfl rfl ?_
        refine zeLn hs rfl rfl rfl rfl rfl ?_
        refine zeF2 rfl rfl (zcge_f (by omega) (by omega) (by omega)) ?_
        refine zeP rfl rfl ?_
        refine zeP rfl rfl ?_
        refine zeCh hs (by omega) rfl rfl rfl rfl rfl ?_
        refine zeKn (c := 32) rfl rfl rfl ?_
        refine zeT2 rfl rfl h1 ?_
        refine zeP rfl rfl ?_
        refine zeP rfl rfl ?_
        refine zeT2 rfl rfl h2 ?_
        refine zeInc rfl rfl ?_
        refine zeP rfl rfl ?_
        exact b2 d hd
      | false =>
        obtain ⟨m1, a1, b1⟩ := wc_putByte (σ := σ) (yy := yy) hw ((zby s).getD c 0)
        obtain ⟨m2, a2, b2⟩ := ih (c + 1) nm m1 (by omega) a1.2
        refine ⟨m2, a1.tr a2, fun d hd => ?_⟩
        refine zeP rfl rfl ?_
        refine zeP rfl rfl ?_
        refine zeLn hs rfl rfl rfl rfl rfl ?_
        refine zeF2 rfl rfl (zcge_f (by omega) (by omega) (by omega)) ?_
        refine zeP rfl rfl ?_
        refine zeP rfl rfl ?_
        refine zeCh hs (by omega) rfl rfl rfl rfl rfl ?_
        refine zeKn (c := 32) rfl rfl rfl ?_
        refine zeT2 rfl rfl h1 ?_
        refine zeP rfl rfl ?_
        refine zeP rfl rfl ?_
        refine zeF2 rfl rfl h2 ?_
        refine zeP rfl rfl ?_
        refine zeP rfl rfl ?_
        refine zeP rfl rfl ?_
        refine zeCh hs (by omega) rfl rfl rfl rfl rfl ?_
        refine zeCV rfl rfl rfl rfl zS129 rfl b1 hd ?_
        dsimp only [Option.toList, List.cons_append, List.nil_append]
        refine zeInc rfl rfl ?_
        refine zeP rfl rfl ?_
        exact b2 d hd
theorem wc_putName {s : Nat} (hs : s < 37) (hw : okm m 129 1 400) (k : Int32) : ∃ m', WF m m' ∧ zF σ 2 1404 [.ref 129, .ref (1100 + s), .int k] (zS1, m, yy) (.inl none) (zS1, m', yy) := by
  obtain ⟨m1, a1, b1⟩ := ww_name (σ := σ) (yy := yy) (k := k) hs (zby s).length 0 (Int32.ofNat 0) m (by omega) hw
  refine ⟨m1, a1, fun d hd => ?_⟩
  obtain ⟨d, rfl⟩ : ∃ k, d = k + 1 := ⟨d - 1, by omega⟩
  show zEv σ (d + 1) 1404 0 [some (.ref 129), some (.ref (1100 + s)), some (.int k), none, none] [] _ _ _
  refine zeKn (c := 0) rfl rfl rfl ?_
  refine zeP rfl rfl ?_
  refine zeKn (c := 0) rfl rfl rfl ?_
  refine zeP rfl rfl ?_
  exact b1 d (by omega)
theorem wn40 (hw : okm m 129 1 400) (v : Int32) : ∃ m', WF m m' ∧ ∀ d, 1 ≤ d → zEv σ (d + 1) 1405 40 [some (.ref 129), some (.int v)] [] (zS1, m, yy) (.inl none) (zS1, m', yy) := by
  obtain ⟨m1, a1, b1⟩ := wc_putByte (σ := σ) (yy := yy) hw (Int32.ofNat 48 + (v - v / Int32.ofNat 10 * Int32.ofNat 10))
  refine ⟨m1, a1, fun d hd => ?_⟩
  refine zeP rfl rfl ?_
  refine zeKn (c := 48) rfl rfl rfl ?_
  refine zeP rfl rfl ?_
  refine zeKn (c := 10) rfl rfl rfl ?_
  refine zeRem rfl (by decide) ?_
  refine zeP rfl rfl ?_
  refine zeCV rfl rfl rfl rfl zS129 rfl b1 hd ?_
  dsimp only [Option.toList, List.cons_append, List.nil_append]
  exact zeRe rfl rfl rfl rfl rfl rfl
theorem wn20 (hw : okm m 129 1 400) (v : Int32) : ∃ m', WF m m' ∧ ∀ d, 1 ≤ d → zEv σ (d + 1) 1405 20 [some (.ref 129), some (.int v)] [] (zS1, m, yy) (.inl none) (zS1, m', yy) := by
  cases h1 : zc2 .lt v (Int32.ofNat 10) with
  | true =>
    obtain ⟨m2, a2, b2⟩ := wn40 (σ := σ) (yy := yy) hw v
    refine ⟨m2, a2, fun d hd => ?_⟩
    refine zeP rfl rfl ?_
    refine zeKn (c := 10) rfl rfl rfl ?_
    refine zeT2 rfl rfl h1 ?_
    exact b2 d hd
  | false =>
    obtain ⟨m1, a1, b1⟩ := wc_putByte (σ := σ) (yy := yy) hw (Int32.ofNat 48 + (v / Int32.ofNat 10 - v / Int32.ofNat 10 / Int32.ofNat 10 * Int32.ofNat 10))
    obtain ⟨m2, a2, b2⟩ := wn40 (σ := σ) (yy := yy) a1.2 v
    refine ⟨m2, a1.tr a2, fun d hd => ?_⟩
    refine zeP rfl rfl ?_
    refine zeKn (c := 10) rfl rfl rfl ?_
    refine zeF2 rfl rfl h1 ?_
    refine zeP rfl rfl ?_
    refine zeKn (c := 48) rfl rfl rfl ?_
    refine zeP rfl rfl ?_
    refine zeKn (c := 10) rfl rfl rfl ?_
    refine zeDiv rfl (by decide) ?_
    refine zeKn (c := 10) rfl rfl rfl ?_
    refine zeRem rfl (by decide) ?_
    refine zeP rfl rfl ?_
    refine zeCV rfl rfl rfl rfl zS129 rfl b1 hd ?_
    dsimp only [Option.toList, List.cons_append, List.nil_append]
    exact b2 d hd
theorem wc_putNumber (hw : okm m 129 1 400) (v : Int32) : ∃ m', WF m m' ∧ zF σ 2 1405 [.ref 129, .int v] (zS1, m, yy) (.inl none) (zS1, m', yy) := by
  cases h1 : zc2 .lt v (Int32.ofNat 100) with
  | true =>
    obtain ⟨m2, a2, b2⟩ := wn20 (σ := σ) (yy := yy) hw v
    refine ⟨m2, a2, fun d hd => ?_⟩
    obtain ⟨d, rfl⟩ : ∃ k, d = k + 1 := ⟨d - 1, by omega⟩
    show zEv σ (d + 1) 1405 0 [some (.ref 129), some (.int v)] [] _ _ _
    refine zeP rfl rfl ?_
    refine zeKn (c := 100) rfl rfl rfl ?_
    refine zeT2 rfl rfl h1 ?_
    exact b2 d (by omega)
  | false =>
    obtain ⟨m1, a1, b1⟩ := wc_putByte (σ := σ) (yy := yy) hw (Int32.ofNat 48 + (v / Int32.ofNat 100 - v / Int32.ofNat 100 / Int32.ofNat 10 * Int32.ofNat 10))
    obtain ⟨m2, a2, b2⟩ := wn20 (σ := σ) (yy := yy) a1.2 v
    refine ⟨m2, a1.tr a2, fun d hd => ?_⟩
    obtain ⟨d, rfl⟩ : ∃ k, d = k + 1 := ⟨d - 1, by omega⟩
    show zEv σ (d + 1) 1405 0 [some (.ref 129), some (.int v)] [] _ _ _
    refine zeP rfl rfl ?_
    refine zeKn (c := 100) rfl rfl rfl ?_
    refine zeF2 rfl rfl h1 ?_
    refine zeP rfl rfl ?_
    refine zeKn (c := 48) rfl rfl rfl ?_
    refine zeP rfl rfl ?_
    refine zeKn (c := 100) rfl rfl rfl ?_
    refine zeDiv rfl (by decide) ?_
    refine zeKn (c := 10) rfl rfl rfl ?_
    refine zeRem rfl (by decide) ?_
    refine zeP rfl rfl ?_
    refine zeCV rfl rfl rfl rfl zS129 rfl b1 (by omega) ?_
    dsimp only [Option.toList, List.cons_append, List.nil_append]
    exact b2 d (by omega)
/-- between two deeds: a comma and a blank, but before the first -/
theorem ww22 {t k : Nat} (hw : okm m 129 1 400) (hk : k < 24) : ∃ m', WF m m' ∧ ∀ d, 2 ≤ d → ∀ o M', zEv σ (d + 1) 1401 38 [some (.ref 129), some (.ref (1 + 10 + 7 * t)), some (.int (Int32.ofNat k))] [] (zS1, m', yy) o M' → zEv σ (d + 1) 1401 22 [some (.ref 129), some (.ref (1 + 10 + 7 * t)), some (.int (Int32.ofNat k))] [] (zS1, m, yy) o M' := by
  cases h1 : zc1 .le (Int32.ofNat k) with
  | true =>
    refine ⟨m, WF.rf hw, fun d hd o M' kk => ?_⟩
    refine zeP rfl rfl ?_
    refine zeT1 rfl rfl h1 ?_
    exact kk
  | false =>
    obtain ⟨m1, a1, b1⟩ := wc_putByte (σ := σ) (yy := yy) hw (Int32.ofNat 44)
    obtain ⟨m2, a2, b2⟩ := wc_putByte (σ := σ) (yy := yy) a1.2 (Int32.ofNat 32)
    refine ⟨m2, a1.tr a2, fun d hd o M' kk => ?_⟩
    refine zeP rfl rfl ?_
    refine zeF1 rfl rfl h1 ?_
    refine zeP rfl rfl ?_
    refine zeKn (c := 44) rfl rfl rfl ?_
    refine zeCV rfl rfl rfl rfl zS129 rfl b1 (by omega) ?_
    dsimp only [Option.toList, List.cons_append, List.nil_append]
    refine zeP rfl rfl ?_
    refine zeKn (c := 32) rfl rfl rfl ?_
    refine zeCV rfl rfl rfl rfl zS129 rfl b2 (by omega) ?_
    dsimp only [Option.toList, List.cons_append, List.nil_append]
    exact kk
theorem ww_write {t D : Nat} (ht : t < 4) (hD : D ≤ 24) : ∀ (n k : Nat) (m : Nat → Nat → Int32), k + n = D → m (1 + 10 + 7 * t) 2 = Int32.ofNat D → okm m 129 1 400 → ∃ v m', WF m m' ∧ ∀ d, 2 ≤ d → zEv σ (d + 1) 1401 14 [some (.ref 129), some (.ref (1 + 10 + 7 * t)), some (.int (Int32.ofNat k))] [] (zS1, m, yy) (.inl (some (.int v))) (zS1, m', yy) := by
  intro n
  induction n with
  | zero =>
    intro k m hk h2 hw
    refine ⟨m 129 1, m, WF.rf hw, fun d hd => ?_⟩
    refine zeP rfl rfl ?_
    refine zeP rfl rfl ?_
    refine zeGI rfl rfl (shS bb1 ht) rfl rfl ?_
    rw [h2]
    refine zeT2 rfl rfl (zcge (by omega) (by omega) (by omega)) ?_
    refine zeP rfl rfl ?_
    refine zeGI rfl rfl zS129 rfl rfl ?_
    exact zeRe rfl rfl rfl rfl rfl rfl
  | succ n ih =>
    intro k m hk h2 hw
    obtain ⟨m1, a1, b1⟩ := ww22 (σ := σ) (yy := yy) (t := t) (k := k) hw (by omega)
    obtain ⟨m2, a2, b2⟩ := wc_putName (σ := σ) (yy := yy) (s := 4) (by omega) a1.2 (x_kindAt m1 1 t k)
    have key : ∃ m3, WF m2 m3 ∧ ∀ d, 2 ≤ d → ∀ o M', zEv σ (d + 1) 1401 68 [some (.ref 129), some (.ref (1 + 10 + 7 * t)), some (.int (Int32.ofNat k))] [] (zS1, m3, yy) o M' → zEv σ (d + 1) 1401 49 [some (.ref 129), some (.ref (1 + 10 + 7 * t)), some (.int (Int32.ofNat k))] [] (zS1, m2, yy) o M' := by
      cases h7 : zc2 .eq (x_kindAt m2 1 t k) (Int32.ofNat 7) with
      | true =>
        refine ⟨m2, WF.rf a2.2, fun d hd o M' kk => ?_⟩
        refine zeP rfl rfl ?_
        refine zeP rfl rfl ?_
        refine zeCV rfl rfl rfl rfl (shS bb1 ht) rfl (xc_kindAt (m := m2) (b := 1) (t := t) (p := k) bb1 ht (by omega)) (by omega) ?_
        dsimp only [Option.toList, List.cons_append, List.nil_append]
        refine zeKn (c := 7) rfl rfl rfl ?_
        refine zeT2 rfl rfl h7 ?_
        exact kk
      | false =>
        obtain ⟨m3, a3, b3⟩ := wc_putNumber (σ := σ) (yy := yy) a2.2 (x_numberAt m2 1 t k)
        refine ⟨m3, a3, fun d hd o M' kk => ?_⟩
        refine zeP rfl rfl ?_
        refine zeP rfl rfl ?_
        refine zeCV rfl rfl rfl rfl (shS bb1 ht) rfl (xc_kindAt (m := m2) (b := 1) (t := t) (p := k) bb1 ht (by omega)) (by omega) ?_
        dsimp only [Option.toList, List.cons_append, List.nil_append]
        refine zeKn (c := 7) rfl rfl rfl ?_
        refine zeF2 rfl rfl h7 ?_
        refine zeP rfl rfl ?_
        refine zeP rfl rfl ?_
        refine zeP rfl rfl ?_
        refine zeCV rfl rfl rfl rfl (shS bb1 ht) rfl (xc_numberAt (m := m2) (b := 1) (t := t) (p := k) bb1 ht (by omega)) (by omega) ?_
        dsimp only [Option.toList, List.cons_append, List.nil_append]
        refine zeCV rfl rfl rfl rfl zS129 rfl b3 hd ?_
        dsimp only [Option.toList, List.cons_append, List.nil_append]
        exact kk
    obtain ⟨m3, a3, b3⟩ := key
    have aA := (a1.tr a2).tr a3
    obtain ⟨v, m4, a4, b4⟩ := ih (k + 1) m3 (by omega) ((aA.1 _ _ (by omega) (by omega)).trans h2) a3.2
    refine ⟨v, m4, aA.tr a4, fun d hd => ?_⟩
    refine zeP rfl rfl ?_
    refine zeP rfl rfl ?_
    refine zeGI rfl rfl (shS bb1 ht) rfl rfl ?_
    rw [h2]
    refine zeF2 rfl rfl (zcge_f (by omega) (by omega) (by omega)) ?_
    refine b1 d hd _ _ ?_
    refine zeP rfl rfl ?_
    refine zeS rfl rfl rfl ?_
    refine zeP rfl rfl ?_
    refine zeP rfl rfl ?_
    refine zeCV rfl rfl rfl rfl (shS bb1 ht) rfl (xc_kindAt (m := m1) (b := 1) (t := t) (p := k) bb1 ht (by omega)) (by omega) ?_
    dsimp only [Option.toList, List.cons_append, List.nil_append]
    refine zeCV rfl rfl rfl rfl zS129 rfl b2 hd ?_
    dsimp only [Option.toList, List.cons_append, List.nil_append]
    refine b3 d hd _ _ ?_
    refine zeInc rfl rfl ?_
    refine zeP rfl rfl ?_
    exact b4 d hd
theorem wc_write {t : Nat} (ht : t < 4) (hD : DT m 1 t) (hw : okm m 129 1 400) : ∃ v m', WF m m' ∧ zF σ 3 1401 [.ref 129, .ref (1 + 10 + 7 * t)] (zS1, m, yy) (.inl (some (.int v))) (zS1, m', yy) := by
  have hw0 : okm (zm2 m 129 1 (Int32.ofNat 0)) 129 1 400 := okm.is (zx_at _ _ _ _) (by omega) (by omega)
  have f0 : ∀ i l, i ≠ 129 → i ≠ 130 → zm2 m 129 1 (Int32.ofNat 0) i l = m i l := fun i l h1 _ => zx_ne _ _ _ h1
  obtain ⟨m1, a1, b1⟩ := wc_putName (σ := σ) (yy := yy) (s := 3) (by omega) hw0 (Int32.ofNat 0)
  obtain ⟨v, m2, a2, b2⟩ := ww_write (σ := σ) (yy := yy) ht hD.1.2 (mv m (1 + 10 + 7 * t) 2) 0 m1 (by omega) ((a1.1 _ _ (by omega) (by omega)).trans ((f0 _ _ (by omega) (by omega)).trans hD.1.1)) a1.2
  refine ⟨v, m2, WF.tr ⟨f0, hw0⟩ (a1.tr a2), fun d hd => ?_⟩
  obtain ⟨d, rfl⟩ : ∃ k, d = k + 1 := ⟨d - 1, by omega⟩
  show zEv σ (d + 1) 1401 0 [some (.ref 129), some (.ref (1 + 10 + 7 * t)), none] [] _ _ _
  refine zeP rfl rfl ?_
  refine zeKn (c := 0) rfl rfl rfl ?_
  refine zePI rfl rfl zS129 rfl ?_
  refine zeP rfl rfl ?_
  refine zeS rfl rfl rfl ?_
  refine zeKn (c := 0) rfl rfl rfl ?_
  refine zeCV rfl rfl rfl rfl zS129 rfl b1 (by omega) ?_
  dsimp only [Option.toList, List.cons_append, List.nil_append]
  refine zeKn (c := 0) rfl rfl rfl ?_
  refine zeP rfl rfl ?_
  exact b2 d (by omega)
theorem ec_text {t : Int32} (hC : CG m 1) (hK : KX m 1 P0) (hw : okm m 129 1 400) : ∃ X m', WF m m' ∧ (∀ e0, X = .inr e0 → e0 = 0) ∧ zF σ 4 1633 [.ref 0, .int t] (zS1, m, yy) (xo X) (zS1, m', xy yy X) := by
  cases h : sOK m t with
  | false =>
    refine ⟨.inr 0, m, WF.rf hw, fun e0 q => (Sum.inr.inj q).symm, fun d hd => ?_⟩
    obtain ⟨d, rfl⟩ : ∃ k, d = k + 1 := ⟨d - 1, by omega⟩
    show zEv σ (d + 1) 1633 0 [some (.ref 0), some (.int t)] [] _ _ _
    refine zeP rfl rfl ?_
    refine zeGR rfl rfl zS00 rfl rfl ?_
    refine zeP rfl rfl ?_
    refine zeP rfl rfl ?_
    exact zeThX rfl rfl rfl rfl rfl rfl (xn_1638 (m := m) (x := t) h) (by omega) rfl rfl rfl rfl
  | true =>
    obtain ⟨g1, g2⟩ := xk_1638 hC h
    have h4 := hC.c4
    have t4 : t.toNatClampNeg < 4 := by omega
    obtain ⟨v, m1, a1, b1⟩ := wc_write (σ := σ) (yy := yy) t4 (hK.1 _ t4) hw
    refine ⟨.inl v, m1, a1, fun e0 q => (by cases q), fun d hd => ?_⟩
    obtain ⟨d, rfl⟩ : ∃ k, d = k + 1 := ⟨d - 1, by omega⟩
    show zEv σ (d + 1) 1633 0 [some (.ref 0), some (.int t)] [] _ _ _
    refine zeP rfl rfl ?_
    refine zeGR rfl rfl zS00 rfl rfl ?_
    refine zeP rfl rfl ?_
    refine zeP rfl rfl ?_
    refine zeCV rfl rfl rfl rfl zS00 rfl (xo_1638 (m := m) (x := t) h hC) (by omega) ?_
    dsimp only [Option.toList, List.cons_append, List.nil_append]
    refine zeCV rfl rfl rfl rfl zS129 rfl b1 (by omega) ?_
    dsimp only [Option.toList, List.cons_append, List.nil_append]
    exact zeRe rfl rfl rfl rfl rfl rfl
noncomputable def e_octet (m : Nat → Nat → Int32) (k : Int32) : Int32 := (bif zc1 .lt k then (-1) else (bif zc2 .ge k (m 129 1) then (-1) else (bif zc2 .ge k (Int32.ofNat 400) then (-1) else (m 130 k.toNatClampNeg &&& Int32.ofNat 255))))
theorem wc_byteAt {k : Int32} : zF σ 1 1402 [.ref 129, .int k] (zS1, m, yy) (.inl (some (.int (e_octet m k)))) (zS1, m, yy) := by
  intro d hd
  obtain ⟨d, rfl⟩ : ∃ k, d = k + 1 := ⟨d - 1, by omega⟩
  show zEv σ (d + 1) 1402 0 [some (.ref 129), some (.int k)] [] _ _ _
  refine zeP rfl rfl ?_
  refine zeB1 rfl rfl (fun h1 => ?_) (fun h1 => ?_)
  · refine zeK (v := -1) rfl rfl rfl ?_
    exact zeRe rfl rfl rfl rfl (by simp only [e_octet, h1, cond_true, cond_false] <;> rfl) rfl
  · refine zeP rfl rfl ?_
    refine zeP rfl rfl ?_
    refine zeGI rfl rfl zS129 rfl rfl ?_
    refine zeB2 rfl rfl (fun h2 => ?_) (fun h2 => ?_)
    · refine zeK (v := -1) rfl rfl rfl ?_
      exact zeRe rfl rfl rfl rfl (by simp only [e_octet, h1, h2, cond_true, cond_false] <;> rfl) rfl
    · refine zeP rfl rfl ?_
      refine zeKn (c := 400) rfl rfl rfl ?_
      refine zeB2 rfl rfl (fun h3 => ?_) (fun h3 => ?_)
      · refine zeK (v := -1) rfl rfl rfl ?_
        exact zeRe rfl rfl rfl rfl (by simp only [e_octet, h1, h2, h3, cond_true, cond_false] <;> rfl) rfl
      · have ck := ige_of (x := k) (n := 400) (by omega) h1 h3
        refine zeP rfl rfl ?_
        refine zeGR rfl rfl zS129 rfl rfl ?_
        refine zeKn (c := k.toNatClampNeg) rfl rfl ck.1 ?_
        refine zeBL (k := k.toNatClampNeg) rfl zS130 rfl ck.2 ?_
        refine zeKn (c := 255) rfl rfl rfl ?_
        refine zeP rfl rfl ?_
        refine zeP rfl rfl ?_
        exact zeRe rfl rfl rfl rfl (by simp only [e_octet, h1, h2, h3, cond_true, cond_false] <;> rfl) rfl
theorem ec_octet {k : Int32} : zF σ 2 1634 [.ref 0, .int k] (zS1, m, yy) (.inl (some (.int (e_octet m k)))) (zS1, m, yy) := by
  intro d hd
  obtain ⟨d, rfl⟩ : ∃ k, d = k + 1 := ⟨d - 1, by omega⟩
  show zEv σ (d + 1) 1634 0 [some (.ref 0), some (.int k)] [] _ _ _
  refine zeP rfl rfl ?_
  refine zeGR rfl rfl zS00 rfl rfl ?_
  refine zeP rfl rfl ?_
  refine zeCV rfl rfl rfl rfl zS129 rfl wc_byteAt (by omega) ?_
  dsimp only [Option.toList, List.cons_append, List.nil_append]
  exact zeRe rfl rfl rfl rfl rfl rfl
end ZWR
end
section
/-! the class as a whole is in order, and stays so -/
noncomputable def XI (m : Nat → Nat → Int32) : Prop := (CG m 1 ∧ KX m 1 P0) ∧ (CG m 43 ∧ KX m 43 P0) ∧ (CG m 85 ∧ KX m 85 P0) ∧ okm m 0 5 400 ∧ okm m 128 4 400 ∧ okm m 129 1 400 ∧ ∀ u, u < 4 → okm m 134 u 24
/-- what is not the class's stays -/
noncomputable def FG (m m' : Nat → Nat → Int32) : Prop := ∀ i l, 137 ≤ i ∨ (i = 0 ∧ l = 3) → m' i l = m i l
/-- and the length of what was fed -/
noncomputable def FH (m m' : Nat → Nat → Int32) : Prop := ∀ i l, 137 ≤ i ∨ (i = 0 ∧ (l = 5 ∨ l = 3)) → m' i l = m i l
noncomputable def Al (L : List Nat) (X : Int32 ⊕ Nat) : Bool := match X with
  | .inl _ => true
  | .inr e => L.contains e
/-- what a call of the class comes to -/
noncomputable def XO (L : List Nat) (m : Nat → Nat → Int32) (q : (Int32 ⊕ Nat) × (Nat → Nat → Int32)) : Prop := Al L q.1 = true ∧ XI q.2 ∧ FH m q.2
noncomputable def XV (m : Nat → Nat → Int32) (q : Int32 × (Nat → Nat → Int32)) : Prop := XI q.2 ∧ FH m q.2
section ZXI
variable {m m' m'' : Nat → Nat → Int32} {L : List Nat} {X : Int32 ⊕ Nat} {P : Nat → Nat → Int32}
theorem FH.rf : FH m m := fun _ _ _ => rfl
theorem FH.tr (h : FH m m') (g : FH m' m'') : FH m m'' := fun i l hi => (g i l hi).trans (h i l hi)
theorem FH.put {a k : Nat} {x : Int32} (h : FH m m') (ha : a < 137 ∧ (a ≠ 0 ∨ (k ≠ 5 ∧ k ≠ 3))) : FH m (zm2 m' a k x) := fun i l hi => (zx_o _ _ (by omega)).trans (h i l hi)
theorem FH.g (h : FH m m') : FG m m' := fun i l hi => h i l (by omega)
theorem FG.rf : FG m m := fun _ _ _ => rfl
theorem FG.tr (h : FG m m') (g : FG m' m'') : FG m m'' := fun i l hi => (g i l hi).trans (h i l hi)
theorem FG.put {a k : Nat} {x : Int32} (h : FG m m') (ha : a < 137 ∧ (a ≠ 0 ∨ k ≠ 3)) : FG m (zm2 m' a k x) := fun i l hi => (zx_o _ _ (by omega)).trans (h i l hi)
theorem FB.h {b : Nat} (h : FB m' b m) (hb : 1 ≤ b ∧ b ≤ 95) : FH m m' := fun i l hi => h i l (by omega)
theorem XO.rf (h : XI m) (a : Al L X = true) : XO L m (X, m) := ⟨a, h, FH.rf⟩
theorem XO.mk (a : Al L X = true) (h : XI m') (f : FH m m') : XO L m (X, m') := ⟨a, h, f⟩
theorem XI.of1 (h : XI m) (hc : CG m' 1) (hk : KX m' 1 P0) (f : FB m' 1 m) : XI m' := ⟨⟨hc, hk⟩, ⟨h.2.1.1.fb f (Or.inr (by omega)), h.2.1.2.fb f (Or.inr (by omega))⟩, ⟨h.2.2.1.1.fb f (Or.inr (by omega)), h.2.2.1.2.fb f (Or.inr (by omega))⟩, h.2.2.2.1.of (f _ _ (by omega)), h.2.2.2.2.1.of (f _ _ (by omega)), h.2.2.2.2.2.1.of (f _ _ (by omega)), fun u hu => (h.2.2.2.2.2.2 u hu).of (f _ _ (by omega))⟩
theorem XI.of43 (h : XI m) (hc : CG m' 43) (hk : KX m' 43 P0) (f : FB m' 43 m) : XI m' := ⟨⟨h.1.1.fb f (Or.inl (by omega)), h.1.2.fb f (Or.inl (by omega))⟩, ⟨hc, hk⟩, ⟨h.2.2.1.1.fb f (Or.inr (by omega)), h.2.2.1.2.fb f (Or.inr (by omega))⟩, h.2.2.2.1.of (f _ _ (by omega)), h.2.2.2.2.1.of (f _ _ (by omega)), h.2.2.2.2.2.1.of (f _ _ (by omega)), fun u hu => (h.2.2.2.2.2.2 u hu).of (f _ _ (by omega))⟩
theorem XI.of85 (h : XI m) (hc : CG m' 85) (hk : KX m' 85 P0) (f : FB m' 85 m) : XI m' := ⟨⟨h.1.1.fb f (Or.inl (by omega)), h.1.2.fb f (Or.inl (by omega))⟩, ⟨h.2.1.1.fb f (Or.inl (by omega)), h.2.1.2.fb f (Or.inl (by omega))⟩, ⟨hc, hk⟩, h.2.2.2.1.of (f _ _ (by omega)), h.2.2.2.2.1.of (f _ _ (by omega)), h.2.2.2.2.2.1.of (f _ _ (by omega)), fun u hu => (h.2.2.2.2.2.2 u hu).of (f _ _ (by omega))⟩
/-- a change outside the machines, its own rows looked after -/
theorem XI.out (h : XI m) (f : ∀ i l, 1 ≤ i → i < 127 → m' i l = m i l) (h0 : okm m' 0 5 400) (h1 : okm m' 128 4 400) (h2 : okm m' 129 1 400) (h3 : ∀ u, u < 4 → okm m' 134 u 24) : XI m' := by
  have g : ∀ b, 1 ≤ b → b ≤ 85 → ∀ i l, CGc b i l → m' i l = m i l := fun b h1 h2 i l hi => f i l (by rcases hi with ⟨e, _⟩ | ⟨e, _⟩ | ⟨t, ht, ⟨e, _⟩ | e⟩ | ⟨l, hl, e, _⟩ <;> omega) (by rcases hi with ⟨e, _⟩ | ⟨e, _⟩ | ⟨t, ht, ⟨e, _⟩ | e⟩ | ⟨l, hl, e, _⟩ <;> omega)
  have d : ∀ b, 1 ≤ b → b ≤ 85 → ∀ i l, DCc b i l → m' i l = m i l := fun b h1 h2 i l hi => f i l (by rcases hi with ⟨e, _⟩ | ⟨t, ht, ⟨e, _⟩ | ⟨e, _⟩ | e | e⟩ <;> omega) (by rcases hi with ⟨e, _⟩ | ⟨t, ht, ⟨e, _⟩ | ⟨e, _⟩ | e | e⟩ <;> omega)
  exact ⟨⟨h.1.1.same (g 1 (by omega) (by omega)), h.1.2.same (d 1 (by omega) (by omega))⟩, ⟨h.2.1.1.same (g 43 (by omega) (by omega)), h.2.1.2.same (d 43 (by omega) (by omega))⟩, ⟨h.2.2.1.1.same (g 85 (by omega) (by omega)), h.2.2.1.2.same (d 85 (by omega) (by omega))⟩, h0, h1, h2, h3⟩
theorem XI.forget {l : Nat} {x : Int32} (h : XI m) : XI (zm2 m 131 l x) := h.out (fun i l h1 h2 => zx_ne _ _ _ (by omega)) (h.2.2.2.1.of (zx_ne _ _ _ (by omega))) (h.2.2.2.2.1.of (zx_ne _ _ _ (by omega))) (h.2.2.2.2.2.1.of (zx_ne _ _ _ (by omega))) (fun u hu => (h.2.2.2.2.2.2 u hu).of (zx_ne _ _ _ (by omega)))
theorem XI.el {l : Nat} {x : Int32} (h : XI m) (hl : l ≠ 5) : XI (zm2 m 0 l x) := h.out (fun i l h1 h2 => zx_ne _ _ _ (by omega)) (h.2.2.2.1.of (zx_nk _ _ (by omega))) (h.2.2.2.2.1.of (zx_ne _ _ _ (by omega))) (h.2.2.2.2.2.1.of (zx_ne _ _ _ (by omega))) (fun u hu => (h.2.2.2.2.2.2 u hu).of (zx_ne _ _ _ (by omega)))
theorem XI.len {n : Nat} (h : XI m) (hn : n ≤ 400) : XI (zm2 m 0 5 (Int32.ofNat n)) := h.out (fun i l h1 h2 => zx_ne _ _ _ (by omega)) (okm.is (zx_at _ _ _ _) hn (by omega)) (h.2.2.2.2.1.of (zx_ne _ _ _ (by omega))) (h.2.2.2.2.2.1.of (zx_ne _ _ _ (by omega))) (fun u hu => (h.2.2.2.2.2.2 u hu).of (zx_ne _ _ _ (by omega)))
theorem step_x {t : Int32} (h : XI m) : XO [0, 4] m (e_step m t) := by
  unfold e_step
  refine cnd4 (XO [0, 4] m) (fun h0 => cnd4 (XO [0, 4] m) (fun _ => XO.rf h rfl) (fun h1 => cnd4 (XO [0, 4] m) (fun _ => ?_) (fun _ => XO.rf h rfl))) (fun _ => XO.rf h rfl)
  have c4 := h.1.1.c4
  have t4 : t.toNatClampNeg < 4 := by have := (xk_1638 h.1.1 h0).2; omega
  have hx := h.forget (l := 8) (x := Int32.ofNat 0)
  have hr : KX (zm2 m 131 8 (Int32.ofNat 0)) 1 (fun u => u = t.toNatClampNeg) := (h.1.2.run t4 (c1ne0 h1)).far (by omega)
  have g := takeStep_kc bb1 hx.1.1 hr t4
  have f : FB (x_takeStep (zm2 m 131 8 (Int32.ofNat 0)) 1 t.toNatClampNeg).2 1 (zm2 m 131 8 (Int32.ofNat 0)) := FB.refl.takeStep hx.1.1 hr t4
  exact XO.mk rfl (hx.of1 g.2 g.1 f) ((FH.rf.put (by omega)).tr (f.h (by omega)))
theorem poke_x {w v : Int32} (h : XI m) : XO [0, 2] m (e_poke m w v) := by
  unfold e_poke
  refine cnd4 (XO [0, 2] m) (fun h0 => cnd4 (XO [0, 2] m) (fun _ => XO.rf h rfl) (fun h1 => cnd4 (XO [0, 2] m) (fun _ => ?_) (fun _ => XO.rf h rfl))) (fun _ => XO.rf h rfl)
  have hx := h.forget (l := 8) (x := Int32.ofNat 0)
  have g := reachX_ok (m := zm2 m 131 8 (Int32.ofNat 0)) (b := 1) (w := w.toNatClampNeg) (v := v) hx.1.1 hx.1.2 FB.refl
  exact XO.mk rfl (hx.of1 g.1 g.2.1 g.2.2) ((FH.rf.put (by omega)).tr (g.2.2.h (by omega)))
theorem image_x (h : XI m) : XI (e_image m) ∧ (∀ i l, 137 ≤ i ∨ (i = 0 ∧ l = 5) → e_image m i l = m i l) ∧ e_image m 0 3 = Int32.ofNat 1 := by
  unfold e_image
  have f : FB (x_copyFrom m 85 1) 85 m := FB.copy (Or.inr (by omega)) h.1.1 FB.refl
  exact ⟨(h.of85 (CG.copy (Or.inr (by omega)) h.2.2.1.1 h.1.1) (KX.copy (Or.inr (by omega)) h.2.2.1.2 h.1.2 h.1.1) f).el (by omega), fun i l hi => (zx_o _ _ (by omega)).trans (f i l (by omega)), zx_at _ _ _ _⟩
theorem back_x (h : XI m) : XV m (e_back m) := by
  unfold e_back
  have f : FB (x_copyFrom m 1 85) 1 m := FB.copy (Or.inl (by omega)) h.2.2.1.1 FB.refl
  exact cnd4 (XV m) (fun _ => ⟨(h.of1 (CG.copy (Or.inl (by omega)) h.1.1 h.2.2.1.1) (KX.copy (Or.inl (by omega)) h.1.2 h.2.2.1.2 h.2.2.1.1) f).forget, (f.h (by omega)).put (by omega)⟩) (fun _ => ⟨h, FH.rf⟩)
noncomputable def GO (P : Nat → Nat → Int32) (q : Int32 × (Nat → Nat → Int32)) : Prop := CG q.2 1 ∧ KX q.2 1 P0 ∧ FB q.2 1 P
theorem goTurnL_o {n0 : Nat} : ∀ (n k : Nat) (m : Nat → Nat → Int32), CG m 1 → KX m 1 P0 → FB m 1 P → GO P (xl_goTurnL n0 n k m) := by
  intro n
  induction n with
  | zero => intro k m hc hk hf; exact ⟨hc, hk, hf⟩
  | succ n ih =>
    intro k m hc hk hf
    rw [xl_goTurnL]
    refine cnd4 (GO P) (fun _ => ⟨hc, hk, hf⟩) (fun _ => cnd4 (GO P) (fun e => ?_) (fun _ => ⟨hc, hk, hf⟩))
    have cn := nt_ok hc (ne1_of e)
    have hr := hk.run cn.2.1 cn.2.2
    have g := takeStep_kc bb1 hc hr cn.2.1
    exact ih _ _ g.2 g.1 (hf.takeStep hc hr cn.2.1)
theorem goDrawL_o {n0 : Nat} : ∀ (n k : Nat) (m : Nat → Nat → Int32), CG m 1 → KX m 1 P0 → FB m 1 P → GO P (xl_goDrawL n0 n k m) := by
  intro n
  induction n with
  | zero => intro k m hc hk hf; exact ⟨hc, hk, hf⟩
  | succ n ih =>
    intro k m hc hk hf
    obtain ⟨d1, d2, d3, d4⟩ := nd_ok hc hk hf
    rw [xl_goDrawL]
    refine cnd4 (GO P) (fun _ => ⟨hc, hk, hf⟩) (fun _ => cnd4 (GO P) (fun e => ?_) (fun _ => ⟨d1, d2, d3⟩))
    have cn := d4 (ne1_of e)
    have hr := d2.run cn.2.1 cn.2.2
    have g := takeStep_kc bb1 d1 hr cn.2.1
    exact ih _ _ g.2 g.1 (d3.takeStep d1 hr cn.2.1)
theorem run_x {n : Int32} (h : XI m) : XO [2] m (e_run m n) := by
  unfold e_run
  refine cnd4 (XO [2] m) (fun _ => ?_) (fun _ => XO.rf h rfl)
  have hx := h.forget (l := 8) (x := Int32.ofNat 0)
  have g := goTurnL_o (n0 := n.toNatClampNeg) n.toNatClampNeg 0 (zm2 m 131 8 (Int32.ofNat 0)) hx.1.1 hx.1.2 FB.refl
  exact XO.mk rfl (hx.of1 g.1 g.2.1 g.2.2) ((FH.rf.put (by omega)).tr (g.2.2.h (by omega)))
theorem chance_x {n : Int32} (h : XI m) : XO [2] m (e_chance m n) := by
  unfold e_chance
  refine cnd4 (XO [2] m) (fun _ => ?_) (fun _ => XO.rf h rfl)
  have hx := h.forget (l := 8) (x := Int32.ofNat 0)
  have g := goDrawL_o (n0 := n.toNatClampNeg) n.toNatClampNeg 0 (zm2 m 131 8 (Int32.ofNat 0)) hx.1.1 hx.1.2 FB.refl
  exact XO.mk rfl (hx.of1 g.1 g.2.1 g.2.2) ((FH.rf.put (by omega)).tr (g.2.2.h (by omega)))
theorem due_x {t : Int32} (h : XI m) : XO [0] m (e_due m t) := by
  unfold e_due
  refine cnd4 (XO [0] m) (fun _ => ?_) (fun _ => XO.rf h rfl)
  have g := taT_ok (t := t.toNatClampNeg) (x := m (1 + 3) 4) (q := Int32.ofNat 400) h.1.1 h.1.2 h.2.1.1 h.2.1.2 (by decide)
  exact XO.mk rfl (h.of43 g.1 g.2.1 g.2.2.1) (g.2.2.1.h (by omega))
theorem plain_x (h : XI m) : XV m (e_plain m) := by
  have g := taX_ok (x := Int32.ofNat 16) (q := Int32.ofNat 400) h.1.1 h.1.2 h.2.1.1 h.2.1.2 (by decide)
  unfold e_plain
  generalize e_taX m (Int32.ofNat 16) (Int32.ofNat 400) = Y at g ⊢
  exact ⟨h.of43 g.1 g.2.1 g.2.2.1, g.2.2.1.h (by omega)⟩
theorem quickL_x {f : Int32} : ∀ (n : Nat) (a s : Int32) (k : Nat) (m : Nat → Nat → Int32), XI m → SQ s → XV m (xl_quickL f n a s k m) := by
  intro n
  induction n with
  | zero =>
    intro a s k m h hs
    exact cndi (XV m) (cndi (XV m) ⟨h, FH.rf⟩ ⟨h, FH.rf⟩) ⟨h, FH.rf⟩
  | succ n ih =>
    intro a s k m h hs
    have g := taX_ok (x := Int32.ofNat k) h.1.1 h.1.2 h.2.1.1 h.2.1.2 hs.le1
    rw [xl_quickL]
    generalize e_taX m (Int32.ofNat k) (s - Int32.ofNat 1) = Y at g ⊢
    have hy := h.of43 g.1 g.2.1 g.2.2.1
    have fy := g.2.2.1.h (by omega)
    refine cnd4 (XV m) (fun _ => ?_) (fun e => ?_)
    · obtain ⟨a1, a2⟩ := ih a s (k + 1) Y.2 hy hs
      exact ⟨a1, fy.tr a2⟩
    · obtain ⟨a1, a2⟩ := ih (Int32.ofNat k) Y.1 (k + 1) Y.2 hy (SQ.of g.2.2.2 (ne1_of2 e))
      exact ⟨a1, fy.tr a2⟩
theorem quickest_x {x : Int32} (h : XI m) : XO [1] m (e_quickest m x) := by
  have g : ∀ f : Int32, XV m (xl_quickL f 17 (-1) (Int32.ofNat 401) 0 m) := fun f => quickL_x 17 (-1) (Int32.ofNat 401) 0 m h ⟨401, by omega, rfl⟩
  unfold e_quickest
  exact cnd4 (XO [1] m) (fun _ => cnd4 (XO [1] m) (fun _ => XO.mk rfl (g _).1 (g _).2) (fun _ => XO.mk rfl (g _).1 (g _).2)) (fun _ => XO.rf h rfl)
theorem feed1_x {x : Int32} {n : Nat} (h : XI m) (hn : n + 4 ≤ 400) : XI (e_feed1 m x n) ∧ FG m (e_feed1 m x n) := by
  refine ⟨h.out (fun i l h1 h2 => feed1_i (by omega) (by omega)) (okm.is feed1_5 hn (by omega)) (h.2.2.2.2.1.of (feed1_i (by omega) (by omega))) (h.2.2.2.2.2.1.of (feed1_i (by omega) (by omega))) (fun u hu => (h.2.2.2.2.2.2 u hu).of (feed1_i (by omega) (by omega))), fun i l hi => feed1_i (by omega) (by omega)⟩
noncomputable def XF (m : Nat → Nat → Int32) (q : Int32 × (Nat → Nat → Int32)) : Prop := XI q.2 ∧ FG m q.2
theorem feed_x {a b c e f : Int32} {n : Nat} (h : XI m) (hn : n ≤ 400) : XF m (e_feed m a b c e f n) := by
  unfold e_feed
  refine cnd4 (XF m) (fun q => ?_) (fun _ => ⟨h, FG.rf⟩)
  have h20 := tle_t (by omega) (by omega) q
  have a1 := feed1_x (x := a) (n := n) h (by omega)
  have a2 := feed1_x (x := b) (n := n + 4) a1.1 (by omega)
  have a3 := feed1_x (x := c) (n := n + 8) a2.1 (by omega)
  have a4 := feed1_x (x := e) (n := n + 12) a3.1 (by omega)
  have a5 := feed1_x (x := f) (n := n + 16) a4.1 (by omega)
  exact ⟨a5.1, (((a1.2.tr a2.2).tr a3.2).tr a4.2).tr a5.2⟩
theorem end_x {n : Int32} (h : XI m) : XF m (e_end m n) := by
  unfold e_end
  refine cnd4 (XF m) (fun _ => ⟨h, FG.rf⟩) (fun h1 => cnd4 (XF m) (fun h2 => ?_) (fun _ => ⟨h, FG.rf⟩))
  have h0 := h.2.2.2.1
  rw [h0.1] at h2
  have g := i7_of (by have := h0.2; omega) h1 h2
  rw [g.1]
  exact ⟨h.len (by have := h0.2; omega), FG.rf.put (by omega)⟩
theorem seed_x {n : Int32} (h : XI m) : XV m (e_seed m n) := ⟨h.of1 (h.1.1.put _ (ncM (by omega) (by omega))) (h.1.2.put _ (ndM (by omega))) (FB.refl.put _ ⟨by omega, by omega⟩), FH.rf.put (by omega)⟩
theorem tune_x {x n : Int32} (h : XI m) : XO [1, 2] m (e_tune m x n) := by
  unfold e_tune
  exact cnd4 (XO [1, 2] m) (fun _ => XO.rf h rfl) (fun _ => cnd4 (XO [1, 2] m) (fun _ => cnd4 (XO [1, 2] m) (fun _ => XO.rf h rfl) (fun _ => cnd4 (XO [1, 2] m) (fun _ => XO.mk rfl (h.of1 (h.1.1.put _ (ncE (by omega))) (h.1.2.put _ (ndX (by omega) (by omega))) (FB.refl.put _ ⟨by omega, by omega⟩)) (FH.rf.put (by omega))) (fun _ => XO.rf h rfl))) (fun _ => XO.rf h rfl))
theorem xM3_x {n : Nat} (h : XI m) (hn : n ≤ 400) : XI (xM3 m n) ∧ FG m (xM3 m n) ∧ CG (xM3 m n) 43 ∧ KX (xM3 m n) 43 P0 := by
  obtain ⟨a1, a2, a3, b, a4, a5⟩ := xM3_ok (n := n) h.1.1 h.1.2 h.2.1.1 h.2.1.2 hn
  have g1 : CG (xM3 m n) 1 := h.1.1.same (fun i l hi => a3 i l (by rcases hi with ⟨e, _⟩ | ⟨e, _⟩ | ⟨t, ht, ⟨e, _⟩ | e⟩ | ⟨l, hl, e, _⟩ <;> omega) (by rcases hi with ⟨e, _⟩ | ⟨e, _⟩ | ⟨t, ht, ⟨e, _⟩ | e⟩ | ⟨l, hl, e, _⟩ <;> omega) (by rcases hi with ⟨e, _⟩ | ⟨e, _⟩ | ⟨t, ht, ⟨e, _⟩ | e⟩ | ⟨l, hl, e, _⟩ <;> omega))
  have g2 : KX (xM3 m n) 1 P0 := h.1.2.same (fun i l hi => a3 i l (by rcases hi with ⟨e, _⟩ | ⟨t, ht, ⟨e, _⟩ | ⟨e, _⟩ | e | e⟩ <;> omega) (by rcases hi with ⟨e, _⟩ | ⟨t, ht, ⟨e, _⟩ | ⟨e, _⟩ | e | e⟩ <;> omega) (by rcases hi with ⟨e, _⟩ | ⟨t, ht, ⟨e, _⟩ | ⟨e, _⟩ | e | e⟩ <;> omega))
  have g3 : CG (xM3 m n) 85 := h.2.2.1.1.same (fun i l hi => a3 i l (by rcases hi with ⟨e, _⟩ | ⟨e, _⟩ | ⟨t, ht, ⟨e, _⟩ | e⟩ | ⟨l, hl, e, _⟩ <;> omega) (by rcases hi with ⟨e, _⟩ | ⟨e, _⟩ | ⟨t, ht, ⟨e, _⟩ | e⟩ | ⟨l, hl, e, _⟩ <;> omega) (by rcases hi with ⟨e, _⟩ | ⟨e, _⟩ | ⟨t, ht, ⟨e, _⟩ | e⟩ | ⟨l, hl, e, _⟩ <;> omega))
  have g4 : KX (xM3 m n) 85 P0 := h.2.2.1.2.same (fun i l hi => a3 i l (by rcases hi with ⟨e, _⟩ | ⟨t, ht, ⟨e, _⟩ | ⟨e, _⟩ | e | e⟩ <;> omega) (by rcases hi with ⟨e, _⟩ | ⟨t, ht, ⟨e, _⟩ | ⟨e, _⟩ | e | e⟩ <;> omega) (by rcases hi with ⟨e, _⟩ | ⟨t, ht, ⟨e, _⟩ | ⟨e, _⟩ | e | e⟩ <;> omega))
  have g5 : okm (xM3 m n) 0 5 400 := okm.is (n := 0) (zx_at _ _ _ _) (by omega) (by omega)
  exact ⟨⟨⟨g1, g2⟩, ⟨a1, a2⟩, ⟨g3, g4⟩, g5, okm.is a5 a4 (by omega), h.2.2.2.2.2.1.of (a3 _ _ (by omega) (by omega) (by omega)), fun u hu => (h.2.2.2.2.2.2 u hu).of (a3 _ _ (by omega) (by omega) (by omega))⟩, fun i l hi => a3 i l (by omega) (by omega) (by omega), a1, a2⟩
noncomputable def XZ (L : List Nat) (m : Nat → Nat → Int32) (q : (Int32 ⊕ Nat) × (Nat → Nat → Int32)) : Prop := Al L q.1 = true ∧ XI q.2 ∧ FG m q.2 ∧ q.2 0 5 = Int32.ofNat 0
theorem XZ.mk (a : Al L X = true) (h : XI m') (f : FG m m') (z : m' 0 5 = Int32.ofNat 0) : XZ L m (X, m') := ⟨a, h, f, z⟩
theorem machine_x {n b : Nat} (h : XI m) (hn : n ≤ 400) : XZ [2, 3] m (e_machine m n b) := by
  obtain ⟨a1, a2, a3, a4⟩ := xM3_x h hn
  unfold e_machine
  show XZ [2, 3] m (bif zc2 .eq (xM3 m n 0 6) (-1) then (bif zc2 .lt (xM3 m n 1 6) (Int32.ofNat 12) then (.inl (zm2 (zm2 (x_copyFrom (xM3 m n) 1 43) 1 6 (x_copyFrom (xM3 m n) 1 43 1 6 + Int32.ofNat 1)) 131 8 (Int32.ofNat 0) 1 6), zm2 (zm2 (x_copyFrom (xM3 m n) 1 43) 1 6 (x_copyFrom (xM3 m n) 1 43 1 6 + Int32.ofNat 1)) 131 8 (Int32.ofNat 0)) else (.inr 3, xM3 m n)) else (.inr 2, xM3 m n))
  have z : xM3 m n 0 5 = Int32.ofNat 0 := zx_at _ _ _ _
  generalize xM3 m n = M at a1 a2 a3 a4 z ⊢
  have f : FB (x_copyFrom M 1 43) 1 M := FB.copy (Or.inl (by omega)) a3 FB.refl
  have c : XI (x_copyFrom M 1 43) := a1.of1 (CG.copy (Or.inl (by omega)) a1.1.1 a3) (KX.copy (Or.inl (by omega)) a1.1.2 a4 a3) f
  have c2 : ∀ x : Int32, XI (zm2 (x_copyFrom M 1 43) 1 6 x) := fun x => c.of1 (c.1.1.put _ (ncM (by omega) (by omega))) (c.1.2.put _ (ndM (by omega))) (FB.refl.put _ ⟨by omega, by omega⟩)
  exact cnd4 (XZ [2, 3] m) (fun _ => cnd4 (XZ [2, 3] m) (fun _ => XZ.mk rfl (c2 _).forget (((a2.tr (f.h (by omega)).g).put (by omega)).put (by omega)) ((zx_ne _ _ _ (by omega)).trans ((zx_ne _ _ _ (by omega)).trans ((f 0 5 (by omega)).trans z)))) (fun _ => XZ.mk rfl a1 a2 z)) (fun _ => XZ.mk rfl a1 a2 z)
theorem XI.j (h : XI m) : OJ m (mv m 1 5) := ⟨h.1.1, h.1.2, h.2.2.2.2.2.2, h.1.1.c⟩
theorem searchL_o {n5 : Nat} (hn5 : n5 ≤ 4) : ∀ (n t : Nat) (m : Nat → Nat → Int32), t + n = n5 → OJ m n5 → OJ (xl_searchL n5 n t m) n5 ∧ ∀ i l, i < 131 ∨ 137 ≤ i → xl_searchL n5 n t m i l = m i l := by
  intro n
  induction n with
  | zero =>
    intro t m _ hj
    rw [xl_searchL]
    have o := (pf_ok (σ := fun _ => (0, fun _ => 0)) (yy := (fun _ _ => 0, true, 0, 0)) hn5 10 0 rfl _ hj.told).2
    generalize x_pf n5 10 0 (zcpy (zm2 m 131 6 (Int32.ofNat 0)) (1 + 2) 132 0 0 32) = Y at o ⊢
    refine cndi (fun q : Nat → Nat → Int32 => OJ q n5 ∧ ∀ i l, i < 131 ∨ 137 ≤ i → q i l = m i l) ⟨hj, fun _ _ _ => rfl⟩ (cndi (fun q : Nat → Nat → Int32 => OJ q n5 ∧ ∀ i l, i < 131 ∨ 137 ≤ i → q i l = m i l) ⟨(o.j hj.told).far (by omega) (by omega), fun i l hi => ?_⟩ ⟨hj, fun _ _ _ => rfl⟩)
    rw [zx_ne _ _ _ (by omega), o.2.1 i l hi, zcpy_ne (by omega), zx_ne _ _ _ (by omega)]
  | succ n ih =>
    intro t m htn hj
    obtain ⟨a1, a2⟩ := ih (t + 1) _ (by omega) (hj.p0 (t := t) (x := m 131 7 + x_partCount m 1 t) (by omega))
    refine ⟨a1, fun i l hi => (a2 i l hi).trans ?_⟩
    rw [zx_ne _ _ _ (by omega), zx_ne _ _ _ (by omega), zx_ne _ _ _ (by omega)]
theorem serial_x {k : Int32} (h : XI m) : XV m (e_serial m k (mv m 1 5)) := by
  unfold e_serial
  refine cnd4 (XV m) (fun _ => ⟨h, FH.rf⟩) (fun _ => ?_)
  have h3 := (((h.forget (l := 8) (x := Int32.ofNat 1)).forget (l := 9) (x := Int32.ofNat 0)).forget (l := 7) (x := Int32.ofNat 0))
  have hj : OJ (zm2 (zm2 (zm2 m 131 8 (Int32.ofNat 1)) 131 9 (Int32.ofNat 0)) 131 7 (Int32.ofNat 0)) (mv m 1 5) := ((h.j.far (by omega) (by omega)).far (by omega) (by omega)).far (by omega) (by omega)
  obtain ⟨a1, a2⟩ := searchL_o h.1.1.c4 (mv m 1 5) 0 _ (by omega) hj
  have e : ∀ i l, i < 131 ∨ 137 ≤ i → x_search m (mv m 1 5) i l = m i l := fun i l hi => (a2 i l hi).trans (by rw [zx_ne _ _ _ (by omega), zx_ne _ _ _ (by omega), zx_ne _ _ _ (by omega)])
  exact ⟨h.out (fun i l h1 h2 => e i l (by omega)) (h.2.2.2.1.of (e _ _ (by omega))) (h.2.2.2.2.1.of (e _ _ (by omega))) (h.2.2.2.2.2.1.of (e _ _ (by omega))) a1.2.2.1, fun i l hi => e i l (by omega)⟩
theorem WF.x (h : XI m) (w : WF m m') : XI m' ∧ FH m m' := ⟨h.out (fun i l h1 h2 => w.1 i l (by omega) (by omega)) (h.2.2.2.1.of (w.1 _ _ (by omega) (by omega))) (h.2.2.2.2.1.of (w.1 _ _ (by omega) (by omega))) w.2 (fun u hu => (h.2.2.2.2.2.2 u hu).of (w.1 _ _ (by omega) (by omega))), fun i l hi => w.1 i l (by omega) (by omega)⟩
end ZXI
section ZAL
variable {m : Nat → Nat → Int32} {t k x : Int32}
theorem al_thread : Al [0, 1] (e_thread m t x) = true := by
  unfold e_thread
  repeat' (refine cndi (fun q => Al [0, 1] q = true) ?_ ?_)
  all_goals rfl
theorem al_leftOut : Al [0] (e_leftOut m t k) = true := by
  unfold e_leftOut
  repeat' (refine cndi (fun q => Al [0] q = true) ?_ ?_)
  all_goals rfl
theorem al_blocks : Al [0, 1] (e_blocks m t x) = true := by
  unfold e_blocks
  repeat' (refine cndi (fun q => Al [0, 1] q = true) ?_ ?_)
  all_goals rfl
theorem al_fell : Al [0, 1] (e_fell m t x) = true := by
  unfold e_fell
  repeat' (refine cndi (fun q => Al [0, 1] q = true) ?_ ?_)
  all_goals rfl
theorem al_word : Al [0] (e_word m t) = true := by
  unfold e_word
  repeat' (refine cndi (fun q => Al [0] q = true) ?_ ?_)
  all_goals rfl
theorem al_sees : Al [0] (e_sees m t x) = true := by
  unfold e_sees
  repeat' (refine cndi (fun q => Al [0] q = true) ?_ ?_)
  all_goals rfl
theorem al_lock : Al [0, 1] (e_lock m t x) = true := by
  unfold e_lock
  repeat' (refine cndi (fun q => Al [0, 1] q = true) ?_ ?_)
  all_goals rfl
theorem al_term : Al [1] (e_term m t) = true := by
  unfold e_term
  repeat' (refine cndi (fun q => Al [1] q = true) ?_ ?_)
  all_goals rfl
theorem al_deed : Al [0, 1] (e_deed m t k x) = true := by
  unfold e_deed
  repeat' (refine cndi (fun q => Al [0, 1] q = true) ?_ ?_)
  all_goals rfl
theorem al_touches : Al [0, 1] (e_touches m t x) = true := by
  unfold e_touches
  repeat' (refine cndi (fun q => Al [0, 1] q = true) ?_ ?_)
  all_goals rfl
theorem al_rivals : Al [0, 2] (e_rivals m t x) = true := by
  unfold e_rivals
  repeat' (refine cndi (fun q => Al [0, 2] q = true) ?_ ?_)
  all_goals rfl
theorem al_nest : Al [0] (e_nest m t) = true := by
  unfold e_nest
  repeat' (refine cndi (fun q => Al [0] q = true) ?_ ?_)
  all_goals rfl
theorem al_parts : Al [0] (e_parts m t) = true := by
  unfold e_parts
  repeat' (refine cndi (fun q => Al [0] q = true) ?_ ?_)
  all_goals rfl
theorem al_output : Al [1] (e_output m t x) = true := by
  unfold e_output
  repeat' (refine cndi (fun q => Al [1] q = true) ?_ ?_)
  all_goals rfl
theorem al_log : Al [1] (e_log m t x) = true := by
  unfold e_log
  repeat' (refine cndi (fun q => Al [1] q = true) ?_ ?_)
  all_goals rfl
end ZAL
end
