/-! a text is read, and the machine told -/
def xR0 (m : Nat → Nat → Int32) (e : Nat) : Nat → Nat → Int32 := zm2 (zm2 m 128 2 (Int32.ofNat e)) 128 3 (Int32.ofNat 0)
def yRA (m : Nat → Nat → Int32) (e : Nat) : Int32 × (Nat → Nat → Int32) × Nat × Nat := y_readAll18 (m 127) e (xR0 m e) 0
def x_readAll (m : Nat → Nat → Int32) (e : Nat) : Int32 × (Nat → Nat → Int32) := ((yRA m e).1, XP (yRA m e).2.1 (yRA m e).2.2.1 (yRA m e).2.2.2)
section ZRA
variable {m P : Nat → Nat → Int32} {e : Nat}
theorem xR0_ne {i l : Nat} (h : i ≠ 128) : xR0 m e i l = m i l := by
  unfold xR0
  rw [zx_ne _ _ _ h, zx_ne _ _ _ h]
theorem xR0_XR (he : e ≤ 400) : XR (xR0 m e) (m 127) e := by
  refine ⟨fun k hk => xR0_ne (by decide), ?_, he⟩
  unfold xR0
  rw [zx_nk _ _ (by decide), zx_at]
theorem xR0_self {b : Nat} (h4 : m 128 4 = Int32.ofNat b) : XP (xR0 m e) 0 b = xR0 m e := by
  refine XP_self ?_ ?_
  · unfold xR0
    rw [zx_at]
  · unfold xR0
    rw [zx_nk _ _ (by decide), zx_nk _ _ (by decide)]
    exact h4
theorem nlt400 (he : e ≤ 400) : ¬ Int32.ofNat 400 < Int32.ofNat e := by
  rw [Int32.lt_iff_toInt_lt, zoN (by omega), zoN (by omega)]
  omega
theorem xc_readAll {σ : Nat → Nat × (Nat → Int32)} {yy : (Nat → Nat → Int64) × Bool × Nat × Nat} {b : Nat} (hs : ZS σ) (h4 : m 128 4 = Int32.ofNat b) (he : e ≤ 400) (hc : CG m 43) (hk : KX m 43 P0) : zF σ 8 1001 [.ref 128, .int (Int32.ofNat e)] (zS1, m, yy) (.inl (some (.int (x_readAll m e).1))) (zS1, (x_readAll m e).2, yy) := by
  intro d hd
  obtain ⟨d, rfl⟩ : ∃ k, d = k + 1 := ⟨d - 1, by omega⟩
  have h := yp_readAll18 (σ := σ) (yy := yy) (m := xR0 m e) (p := 0) (b := b) (T := m 127) (e := e) (x := some (.int (Int32.ofNat e))) (d := d) (by omega) hs (xR0_XR he) (Nat.zero_le _) ((hc.far (by omega)).far (by omega)) ((hk.far (by omega)).far (by omega))
  rw [xR0_self h4] at h
  show zEv σ (d + 1) 1001 0 [some (.ref 128), some (.int (Int32.ofNat e)), none] [] _ _ _
  refine zeP rfl rfl ?_
  refine zeP rfl rfl ?_
  refine zeP rfl rfl ?_
  refine zeGR rfl rfl zS128 rfl rfl ?_
  refine zeS (pc' := 7) (st' := [.int (Int32.ofNat 400), .int (Int32.ofNat e), .ref 128]) (M1 := (zS1, m, yy)) rfl rfl rfl ?_
  refine zeM (pc' := 10) (st' := [.int (if Int32.ofNat 400 < Int32.ofNat e then Int32.ofNat 400 else Int32.ofNat e), .ref 128]) rfl rfl rfl rfl rfl rfl rfl ?_
  rw [if_neg (nlt400 he)]
  refine zePI rfl rfl zS128 rfl ?_
  refine zeP rfl rfl ?_
  refine zeKn (c := 0) rfl rfl rfl ?_
  refine zePI rfl rfl zS128 rfl ?_
  exact h
theorem yRA_ok (he : e ≤ 400) (hc : CG m 43) (hk : KX m 43 P0) : YA (m 127) e (xR0 m e) (yRA m e) := readAll_YA (xR0_XR he) (Nat.zero_le _) ((hc.far (by omega)).far (by omega)) ((hk.far (by omega)).far (by omega)) FB.refl
theorem readAll_ok (he : e ≤ 400) (hc : CG m 43) (hk : KX m 43 P0) : CG (x_readAll m e).2 43 ∧ KX (x_readAll m e).2 43 P0 ∧ (∀ i l, i ≠ 128 → i < 43 ∨ 85 ≤ i → (x_readAll m e).2 i l = m i l) ∧ (∃ b, b ≤ 400 ∧ (x_readAll m e).2 128 4 = Int32.ofNat b) := by
  obtain ⟨a1, a2, a3, a4, a5, a6⟩ := yRA_ok he hc hk
  have g : ∀ i, i ≠ 128 → (x_readAll m e).2 i = (yRA m e).2.1 i := fun i hi => XP_ne hi
  refine ⟨a2.same (fun i l hi => ?_), a3.same (fun i l hi => ?_), fun i l h1 h2 => ?_, (yRA m e).2.2.2, by omega, rfl⟩
  · rw [g i (by rcases hi with ⟨e, _⟩ | ⟨e, _⟩ | ⟨t, ht, ⟨e, _⟩ | e⟩ | ⟨l, hl, e, _⟩ <;> omega)]
  · rw [g i (by rcases hi with ⟨e, _⟩ | ⟨t, ht, ⟨e, _⟩ | ⟨e, _⟩ | e | e⟩ <;> omega)]
  · rw [g i h1, a4 i l (by omega), xR0_ne h1]
def xM3 (m : Nat → Nat → Int32) (n : Nat) : Nat → Nat → Int32 := zm2 (zm2 (x_readAll (x_copyFrom m 43 1) n).2 0 6 (x_readAll (x_copyFrom m 43 1) n).1) 0 5 (Int32.ofNat 0)
theorem xM3_ok {n : Nat} (hC : CG m 1) (hK : KX m 1 P0) (hC2 : CG m 43) (hK2 : KX m 43 P0) (hn : n ≤ 400) : CG (xM3 m n) 43 ∧ KX (xM3 m n) 43 P0 ∧ (∀ i l, i ≠ 128 → (i ≠ 0 ∨ l = 3) → i < 43 ∨ 85 ≤ i → xM3 m n i l = m i l) ∧ ∃ b, b ≤ 400 ∧ xM3 m n 128 4 = Int32.ofNat b := by
  obtain ⟨a1, a2, a3, b, a4, a5⟩ := readAll_ok (m := x_copyFrom m 43 1) hn (CG.copy (Or.inr (by omega)) hC2 hC) (KX.copy (Or.inr (by omega)) hK2 hK hC)
  unfold xM3
  refine ⟨(a1.far (by omega)).far (by omega), (a2.far (by omega)).far (by omega), fun i l h1 h2 h3 => ?_, b, a4, ?_⟩
  · rw [zx_o _ _ (by omega), zx_o _ _ (by omega), a3 i l h1 h3]
    exact FB.copy (Or.inr (by omega)) hC FB.refl i l (by omega)
  · rw [zx_ne _ _ _ (by decide), zx_ne _ _ _ (by decide)]
    exact a5
end ZRA
def e_machine (m : Nat → Nat → Int32) (n : Nat) (b : Nat) : (Int32 ⊕ Nat) × (Nat → Nat → Int32) := (bif zc2 .eq (((zm2 ((zm2 ((x_readAll ((x_copyFrom m 43 1)) n).2) 0 6 ((x_readAll ((x_copyFrom m 43 1)) n).1))) 0 5 ((Int32.ofNat 0)))) 0 6) (-1) then (bif zc2 .lt (((zm2 ((zm2 ((x_readAll ((x_copyFrom m 43 1)) n).2) 0 6 ((x_readAll ((x_copyFrom m 43 1)) n).1))) 0 5 ((Int32.ofNat 0)))) 1 6) (Int32.ofNat 12) then ((.inl ((((zm2 ((zm2 ((x_copyFrom ((zm2 ((zm2 ((x_readAll ((x_copyFrom m 43 1)) n).2) 0 6 ((x_readAll ((x_copyFrom m 43 1)) n).1))) 0 5 ((Int32.ofNat 0)))) 1 43)) 1 6 (((((x_copyFrom ((zm2 ((zm2 ((x_readAll ((x_copyFrom m 43 1)) n).2) 0 6 ((x_readAll ((x_copyFrom m 43 1)) n).1))) 0 5 ((Int32.ofNat 0)))) 1 43)) 1 6) + (Int32.ofNat 1))))) 131 8 (Int32.ofNat 0))) 1 6))), (zm2 ((zm2 ((x_copyFrom ((zm2 ((zm2 ((x_readAll ((x_copyFrom m 43 1)) n).2) 0 6 ((x_readAll ((x_copyFrom m 43 1)) n).1))) 0 5 ((Int32.ofNat 0)))) 1 43)) 1 6 (((((x_copyFrom ((zm2 ((zm2 ((x_readAll ((x_copyFrom m 43 1)) n).2) 0 6 ((x_readAll ((x_copyFrom m 43 1)) n).1))) 0 5 ((Int32.ofNat 0)))) 1 43)) 1 6) + (Int32.ofNat 1))))) 131 8 (Int32.ofNat 0))) else ((.inr 3), (zm2 ((zm2 ((x_readAll ((x_copyFrom m 43 1)) n).2) 0 6 ((x_readAll ((x_copyFrom m 43 1)) n).1))) 0 5 ((Int32.ofNat 0))))) else ((.inr 2), (zm2 ((zm2 ((x_readAll ((x_copyFrom m 43 1)) n).2) 0 6 ((x_readAll ((x_copyFrom m 43 1)) n).1))) 0 5 ((Int32.ofNat 0)))))
theorem ec_machine {σ : Nat → Nat × (Nat → Int32)} {yy : (Nat → Nat → Int64) × Bool × Nat × Nat} {m : Nat → Nat → Int32} {n : Nat} {b : Nat} (hC : CG m 1) (hK : KX m 1 P0) (hC2 : CG m 43) (hK2 : KX m 43 P0) (hs : ZS σ) (h5 : m 0 5 = Int32.ofNat n) (hn : n ≤ 400) (h4 : m 128 4 = Int32.ofNat b) : zF σ 9 1604 [.ref 0] (zS1, m, yy) (xo (e_machine m n b).1) (zS1, (e_machine m n b).2, (xy yy (e_machine m n b).1)) := by
  intro d hd
  obtain ⟨d, rfl⟩ : ∃ k, d = k + 1 := ⟨d - 1, by omega⟩
  show zEv σ (d + 1) 1604 0 [some (.ref 0)] [] _ _ _
  refine zeP rfl rfl ?_
  refine zeGR rfl rfl zS00 rfl rfl ?_
  refine zeP rfl rfl ?_
  refine zeGR rfl rfl zS00 rfl rfl ?_
  refine zeCV rfl rfl rfl rfl (shM bb43) rfl (xc_copyFrom (m := m) (b := 43) (c := 1) bb43 bb1 (Or.inr (by omega)) hC.c hC.c4 (fun t ht => (hK.1 t ht).2.2.2.1)) (by omega) ?_
  dsimp only [Option.toList, List.cons_append, List.nil_append]
  refine zeP rfl rfl ?_
  refine zeP rfl rfl ?_
  refine zeGR rfl rfl zS00 rfl rfl ?_
  refine zeP rfl rfl ?_
  refine zeGI rfl rfl zS00 rfl rfl ?_
  rw [((FB.copy (Or.inr (by omega)) hC FB.refl 0 5 (Or.inl (by omega))).trans h5)]
  refine zeCV rfl rfl rfl rfl zS128 rfl (xc_readAll (m := (x_copyFrom m 43 1)) (e := n) (b := b) hs ((FB.copy (Or.inr (by omega)) hC FB.refl 128 4 (Or.inr (by omega))).trans h4) hn (CG.copy (Or.inr (by omega)) hC2 hC) (KX.copy (Or.inr (by omega)) hK2 hK hC)) (by omega) ?_
  dsimp only [Option.toList, List.cons_append, List.nil_append]
  refine zePI rfl rfl zS00 rfl ?_
  refine zeP rfl rfl ?_
  refine zeKn (c := 0) rfl rfl rfl ?_
  refine zePI rfl rfl zS00 rfl ?_
  refine zeP rfl rfl ?_
  refine zeGI rfl rfl zS00 rfl rfl ?_
  refine zeK (v := -1) rfl rfl rfl ?_
  refine zeB2 rfl rfl (fun h1 => ?_) (fun h1 => ?_)
  · refine zeP rfl rfl ?_
    refine zeGR rfl rfl zS00 rfl rfl ?_
    refine zeGI rfl rfl (shM bb1) rfl rfl ?_
    refine zeKn (c := 12) rfl rfl rfl ?_
    refine zeB2 rfl rfl (fun h2 => ?_) (fun h2 => ?_)
    · refine zeP rfl rfl ?_
      refine zeGR rfl rfl zS00 rfl rfl ?_
      refine zeP rfl rfl ?_
      refine zeGR rfl rfl zS00 rfl rfl ?_
      refine zeCV rfl rfl rfl rfl (shM bb1) rfl (xc_copyFrom (m := (zm2 ((zm2 ((x_readAll ((x_copyFrom m 43 1)) n).2) 0 6 ((x_readAll ((x_copyFrom m 43 1)) n).1))) 0 5 ((Int32.ofNat 0)))) (b := 1) (c := 43) bb1 bb43 (Or.inl (by omega)) (xM3_ok hC hK hC2 hK2 hn).1.c (xM3_ok hC hK hC2 hK2 hn).1.c4 (fun t ht => ((xM3_ok hC hK hC2 hK2 hn).2.1.1 t ht).2.2.2.1)) (by omega) ?_
      dsimp only [Option.toList, List.cons_append, List.nil_append]
      refine zeP rfl rfl ?_
      refine zeGR rfl rfl zS00 rfl rfl ?_
      refine zeP rfl rfl ?_
      refine zeGI rfl rfl (shM bb1) rfl rfl ?_
      refine zeKn (c := 1) rfl rfl rfl ?_
      refine zeP rfl rfl ?_
      refine zePI rfl rfl (shM bb1) rfl ?_
      refine zeP rfl rfl ?_
      refine zeGR rfl rfl zS00 rfl rfl ?_
      refine zeCV rfl rfl rfl rfl zS131 rfl (xc_forget (m := (zm2 ((x_copyFrom ((zm2 ((zm2 ((x_readAll ((x_copyFrom m 43 1)) n).2) 0 6 ((x_readAll ((x_copyFrom m 43 1)) n).1))) 0 5 ((Int32.ofNat 0)))) 1 43)) 1 6 (((((x_copyFrom ((zm2 ((zm2 ((x_readAll ((x_copyFrom m 43 1)) n).2) 0 6 ((x_readAll ((x_copyFrom m 43 1)) n).1))) 0 5 ((Int32.ofNat 0)))) 1 43)) 1 6) + (Int32.ofNat 1)))))) (by omega) ?_
      dsimp only [Option.toList, List.cons_append, List.nil_append]
      refine zeP rfl rfl ?_
      refine zeGR rfl rfl zS00 rfl rfl ?_
      refine zeGI rfl rfl (shM bb1) rfl rfl ?_
      exact zeRe rfl rfl rfl rfl (by simp only [e_machine, h1, h2, cond_true, cond_false] <;> rfl) (by simp only [e_machine, h1, h2, cond_true, cond_false] <;> rfl)
    · exact zeThr rfl rfl rfl rfl rfl rfl (by simp only [e_machine, h1, h2, cond_true, cond_false] <;> rfl) (by simp only [e_machine, h1, h2, cond_true, cond_false] <;> rfl)
  · exact zeThr rfl rfl rfl rfl rfl rfl (by simp only [e_machine, h1, cond_true, cond_false] <;> rfl) (by simp only [e_machine, h1, cond_true, cond_false] <;> rfl)
