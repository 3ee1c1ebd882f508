theorem ige_of {x : Int32} {n : Nat} (hn : n < 2147483648) (h1 : zc1 .lt x = false) (h2 : zc2 .ge x (Int32.ofNat n) = false) : x = Int32.ofNat x.toNatClampNeg ∧ x.toNatClampNeg < n := by
  have a := of_decide_eq_false h1
  have c := of_decide_eq_false h2
  rw [Int32.lt_iff_toInt_lt, Int32.toInt_zero] at a
  rw [Int32.le_iff_toInt_le, zoN hn] at c
  obtain ⟨g1, g2⟩ := nat_ge (x := x) (by omega)
  exact ⟨g1, by omega⟩
theorem zsw5 {x : Int32} (h0 : ¬ x = Int32.ofNat 0) (h1 : ¬ x = Int32.ofNat 1) (h2 : ¬ x = Int32.ofNat 2) (h3 : ¬ x = Int32.ofNat 3) (h4 : ¬ x = Int32.ofNat 4) (h5 : ¬ x = Int32.ofNat 5) : x.toInt < 0 ∨ 5 < x.toInt := by
  have key : ∀ K : Nat, K < 10 → x.toInt = K → x = Int32.ofNat K := by
    intro K hK e
    apply Int32.toInt_inj.mp
    rw [e, zoN (by omega)]
  apply Classical.byContradiction
  intro hn
  have hr : 0 ≤ x.toInt ∧ x.toInt ≤ 5 := by omega
  obtain ⟨K, hK⟩ := Int.eq_ofNat_of_zero_le hr.1
  have hK9 : K < 6 := by omega
  have e := key K (by omega) hK
  match K, hK9, e with
  | 0, _, e => exact h0 e
  | 1, _, e => exact h1 e
  | 2, _, e => exact h2 e
  | 3, _, e => exact h3 e
  | 4, _, e => exact h4 e
  | 5, _, e => exact h5 e
def e_fault (m : Nat → Nat → Int32) : Int32 := (m 0 6)
theorem ec_fault {σ : Nat → Nat × (Nat → Int32)} {yy : (Nat → Nat → Int64) × Bool × Nat × Nat} {m : Nat → Nat → Int32} : zF σ 1 1605 [.ref 0] (zS1, m, yy) (.inl (some (.int (e_fault m)))) (zS1, m, yy) := by
  intro d hd
  obtain ⟨d, rfl⟩ : ∃ k, d = k + 1 := ⟨d - 1, by omega⟩
  show zEv σ (d + 1) 1605 0 [some (.ref 0)] [] _ _ _
  refine zeP rfl rfl ?_
  refine zeGI rfl rfl zS00 rfl rfl ?_
  exact zeRe rfl rfl rfl rfl (by rfl) (by rfl)
def e_thread (m : Nat → Nat → Int32) (t : Int32) (x : Int32) : (Int32 ⊕ Nat) := (bif sOK m t then (bif decide (x = Int32.ofNat 0) then (.inl ((m ((1 + 10 + 7 * t.toNatClampNeg)) 3))) else (bif decide (x = Int32.ofNat 1) then (.inl ((m ((1 + 10 + 7 * t.toNatClampNeg)) 4))) else (bif decide (x = Int32.ofNat 2) then (bif zc1 .eq (m ((1 + 14 + 7 * t.toNatClampNeg)) 0) then (.inl ((Int32.ofNat 0))) else (.inl ((Int32.ofNat 1)))) else (bif decide (x = Int32.ofNat 3) then (bif zc1 .eq (x_sDone m 1 (t.toNatClampNeg)) then (.inl ((Int32.ofNat 0))) else (.inl ((Int32.ofNat 1)))) else (bif decide (x = Int32.ofNat 4) then (.inl ((m ((1 + 10 + 7 * t.toNatClampNeg)) 5))) else (bif decide (x = Int32.ofNat 5) then (.inl ((m ((1 + 10 + 7 * t.toNatClampNeg)) 6))) else (bif decide (x = Int32.ofNat 6) then (.inl ((x_allFalls m 1 (t.toNatClampNeg)))) else (bif decide (x = Int32.ofNat 7) then (.inl ((m ((1 + 14 + 7 * t.toNatClampNeg)) 5))) else (bif decide (x = Int32.ofNat 8) then (.inl ((m ((1 + 10 + 7 * t.toNatClampNeg)) 2))) else (bif decide (x = Int32.ofNat 9) then (.inl ((m ((1 + 10 + 7 * t.toNatClampNeg)) 7))) else (.inr 1))))))))))) else (.inr 0))
theorem ec_thread {σ : Nat → Nat × (Nat → Int32)} {yy : (Nat → Nat → Int64) × Bool × Nat × Nat} {m : Nat → Nat → Int32} {t : Int32} {x : Int32} (hC : CG m 1) : zF σ 3 1606 [.ref 0, .int t, .int x] (zS1, m, yy) (xo (e_thread m t x)) (zS1, m, (xy yy (e_thread m t x))) := by
  intro d hd
  obtain ⟨d, rfl⟩ : ∃ k, d = k + 1 := ⟨d - 1, by omega⟩
  show zEv σ (d + 1) 1606 0 [some (.ref 0), some (.int t), some (.int x), none] [] _ _ _
  refine zeP rfl rfl ?_
  refine zeP rfl rfl ?_
  cases h1 : sOK m t with
  | false =>
    exact zeThX rfl rfl rfl rfl rfl rfl (xn_1638 (m := m) (x := t) h1) (by omega) rfl rfl (by simp only [e_thread, h1, cond_true, cond_false] <;> rfl) (by simp only [e_thread, h1, cond_true, cond_false] <;> rfl)
  | true =>
    have c1 := xk_1638 (x := t) hC h1
    refine zeCV rfl rfl rfl rfl zS00 rfl (xo_1638 (m := m) (x := t) h1 hC) (by omega) ?_
    dsimp only [Option.toList, List.cons_append, List.nil_append]
    refine zeP rfl rfl ?_
    refine zeP rfl rfl ?_
    have t4 : t.toNatClampNeg < 4 := by have := hC.c4; omega
    cases h2 : decide (x = Int32.ofNat 0) with
    | true =>
      refine zeSw (K := 0) rfl (of_decide_eq_true h2) rfl ?_
      refine zeP rfl rfl ?_
      refine zeGI rfl rfl (shS bb1 (by omega)) rfl rfl ?_
      exact zeRe rfl rfl rfl rfl (by simp only [e_thread, h1, h2, cond_true, cond_false] <;> rfl) (by simp only [e_thread, h1, h2, cond_true, cond_false] <;> rfl)
    | false =>
      cases h3 : decide (x = Int32.ofNat 1) with
      | true =>
        refine zeSw (K := 1) rfl (of_decide_eq_true h3) rfl ?_
        refine zeP rfl rfl ?_
        refine zeGI rfl rfl (shS bb1 (by omega)) rfl rfl ?_
        exact zeRe rfl rfl rfl rfl (by simp only [e_thread, h1, h2, h3, cond_true, cond_false] <;> rfl) (by simp only [e_thread, h1, h2, h3, cond_true, cond_false] <;> rfl)
      | false =>
        cases h4 : decide (x = Int32.ofNat 2) with
        | true =>
          refine zeSw (K := 2) rfl (of_decide_eq_true h4) rfl ?_
          refine zeP rfl rfl ?_
          refine zeGR rfl rfl (shS bb1 (by omega)) rfl rfl ?_
          refine zeGI rfl rfl (shG bb1 (by omega)) rfl rfl ?_
          refine zeB1 rfl rfl (fun h5 => ?_) (fun h5 => ?_)
          · refine zeKn (c := 0) rfl rfl rfl ?_
            exact zeRe rfl rfl rfl rfl (by simp only [e_thread, h1, h2, h3, h4, h5, cond_true, cond_false] <;> rfl) (by simp only [e_thread, h1, h2, h3, h4, h5, cond_true, cond_false] <;> rfl)
          · refine zeKn (c := 1) rfl rfl rfl ?_
            refine zeP rfl rfl ?_
            exact zeRe rfl rfl rfl rfl (by simp only [e_thread, h1, h2, h3, h4, h5, cond_true, cond_false] <;> rfl) (by simp only [e_thread, h1, h2, h3, h4, h5, cond_true, cond_false] <;> rfl)
        | false =>
          cases h6 : decide (x = Int32.ofNat 3) with
          | true =>
            refine zeSw (K := 3) rfl (of_decide_eq_true h6) rfl ?_
            refine zeP rfl rfl ?_
            refine zeCV rfl rfl rfl rfl (shS bb1 (by omega)) rfl (xc_sDone (m := m) (b := 1) (t := t.toNatClampNeg) bb1 t4) (by omega) ?_
            dsimp only [Option.toList, List.cons_append, List.nil_append]
            refine zeB1 rfl rfl (fun h7 => ?_) (fun h7 => ?_)
            · refine zeKn (c := 0) rfl rfl rfl ?_
              exact zeRe rfl rfl rfl rfl (by simp only [e_thread, h1, h2, h3, h4, h6, h7, cond_true, cond_false] <;> rfl) (by simp only [e_thread, h1, h2, h3, h4, h6, h7, cond_true, cond_false] <;> rfl)
            · refine zeKn (c := 1) rfl rfl rfl ?_
              refine zeP rfl rfl ?_
              exact zeRe rfl rfl rfl rfl (by simp only [e_thread, h1, h2, h3, h4, h6, h7, cond_true, cond_false] <;> rfl) (by simp only [e_thread, h1, h2, h3, h4, h6, h7, cond_true, cond_false] <;> rfl)
          | false =>
            cases h8 : decide (x = Int32.ofNat 4) with
            | true =>
              refine zeSw (K := 4) rfl (of_decide_eq_true h8) rfl ?_
              refine zeP rfl rfl ?_
              refine zeGI rfl rfl (shS bb1 (by omega)) rfl rfl ?_
              exact zeRe rfl rfl rfl rfl (by simp only [e_thread, h1, h2, h3, h4, h6, h8, cond_true, cond_false] <;> rfl) (by simp only [e_thread, h1, h2, h3, h4, h6, h8, cond_true, cond_false] <;> rfl)
            | false =>
              cases h9 : decide (x = Int32.ofNat 5) with
              | true =>
                refine zeSw (K := 5) rfl (of_decide_eq_true h9) rfl ?_
                refine zeP rfl rfl ?_
                refine zeGI rfl rfl (shS bb1 (by omega)) rfl rfl ?_
                exact zeRe rfl rfl rfl rfl (by simp only [e_thread, h1, h2, h3, h4, h6, h8, h9, cond_true, cond_false] <;> rfl) (by simp only [e_thread, h1, h2, h3, h4, h6, h8, h9, cond_true, cond_false] <;> rfl)
              | false =>
                cases h10 : decide (x = Int32.ofNat 6) with
                | true =>
                  refine zeSw (K := 6) rfl (of_decide_eq_true h10) rfl ?_
                  refine zeP rfl rfl ?_
                  refine zeCV rfl rfl rfl rfl (shS bb1 (by omega)) rfl (xc_allFalls (m := m) (b := 1) (t := t.toNatClampNeg) bb1 t4) (by omega) ?_
                  dsimp only [Option.toList, List.cons_append, List.nil_append]
                  exact zeRe rfl rfl rfl rfl (by simp only [e_thread, h1, h2, h3, h4, h6, h8, h9, h10, cond_true, cond_false] <;> rfl) (by simp only [e_thread, h1, h2, h3, h4, h6, h8, h9, h10, cond_true, cond_false] <;> rfl)
                | false =>
                  cases h11 : decide (x = Int32.ofNat 7) with
                  | true =>
                    refine zeSw (K := 7) rfl (of_decide_eq_true h11) rfl ?_
                    refine zeP rfl rfl ?_
                    refine zeGR rfl rfl (shS bb1 (by omega)) rfl rfl ?_
                    refine zeGI rfl rfl (shG bb1 (by omega)) rfl rfl ?_
                    exact zeRe rfl rfl rfl rfl (by simp only [e_thread, h1, h2, h3, h4, h6, h8, h9, h10, h11, cond_true, cond_false] <;> rfl) (by simp only [e_thread, h1, h2, h3, h4, h6, h8, h9, h10, h11, cond_true, cond_false] <;> rfl)
                  | false =>
                    cases h12 : decide (x = Int32.ofNat 8) with
                    | true =>
                      refine zeSw (K := 8) rfl (of_decide_eq_true h12) rfl ?_
                      refine zeP rfl rfl ?_
                      refine zeGI rfl rfl (shS bb1 (by omega)) rfl rfl ?_
                      exact zeRe rfl rfl rfl rfl (by simp only [e_thread, h1, h2, h3, h4, h6, h8, h9, h10, h11, h12, cond_true, cond_false] <;> rfl) (by simp only [e_thread, h1, h2, h3, h4, h6, h8, h9, h10, h11, h12, cond_true, cond_false] <;> rfl)
                    | false =>
                      cases h13 : decide (x = Int32.ofNat 9) with
                      | true =>
                        refine zeSw (K := 9) rfl (of_decide_eq_true h13) rfl ?_
                        refine zeP rfl rfl ?_
                        refine zeGI rfl rfl (shS bb1 (by omega)) rfl rfl ?_
                        exact zeRe rfl rfl rfl rfl (by simp only [e_thread, h1, h2, h3, h4, h6, h8, h9, h10, h11, h12, h13, cond_true, cond_false] <;> rfl) (by simp only [e_thread, h1, h2, h3, h4, h6, h8, h9, h10, h11, h12, h13, cond_true, cond_false] <;> rfl)
                      | false =>
                        refine zeSwD rfl (zsw9 (of_decide_eq_false h2) (of_decide_eq_false h3) (of_decide_eq_false h4) (of_decide_eq_false h6) (of_decide_eq_false h8) (of_decide_eq_false h9) (of_decide_eq_false h10) (of_decide_eq_false h11) (of_decide_eq_false h12) (of_decide_eq_false h13)) rfl ?_
                        exact zeThr rfl rfl rfl rfl rfl rfl (by simp only [e_thread, h1, h2, h3, h4, h6, h8, h9, h10, h11, h12, h13, cond_true, cond_false] <;> rfl) (by simp only [e_thread, h1, h2, h3, h4, h6, h8, h9, h10, h11, h12, h13, cond_true, cond_false] <;> rfl)
def e_leftOut (m : Nat → Nat → Int32) (t : Int32) (k : Int32) : (Int32 ⊕ Nat) := (bif sOK m t then (bif zc1 .lt k then (.inl ((-1))) else (bif zc2 .ge k (m ((1 + 14 + 7 * t.toNatClampNeg)) 5) then (.inl ((-1))) else (bif zc2 .ge k (Int32.ofNat 4) then (.inl ((-1))) else (.inl ((m ((1 + 15 + 7 * t.toNatClampNeg)) ((k.toNatClampNeg)))))))) else (.inr 0))
theorem ec_leftOut {σ : Nat → Nat × (Nat → Int32)} {yy : (Nat → Nat → Int64) × Bool × Nat × Nat} {m : Nat → Nat → Int32} {t : Int32} {k : Int32} (hC : CG m 1) : zF σ 3 1607 [.ref 0, .int t, .int k] (zS1, m, yy) (xo (e_leftOut m t k)) (zS1, m, (xy yy (e_leftOut m t k))) := by
  intro d hd
  obtain ⟨d, rfl⟩ : ∃ k, d = k + 1 := ⟨d - 1, by omega⟩
  show zEv σ (d + 1) 1607 0 [some (.ref 0), some (.int t), some (.int k), none] [] _ _ _
  refine zeP rfl rfl ?_
  refine zeP rfl rfl ?_
  cases h1 : sOK m t with
  | false =>
    exact zeThX rfl rfl rfl rfl rfl rfl (xn_1638 (m := m) (x := t) h1) (by omega) rfl rfl (by simp only [e_leftOut, h1, cond_true, cond_false] <;> rfl) (by simp only [e_leftOut, h1, cond_true, cond_false] <;> rfl)
  | true =>
    have c1 := xk_1638 (x := t) hC h1
    refine zeCV rfl rfl rfl rfl zS00 rfl (xo_1638 (m := m) (x := t) h1 hC) (by omega) ?_
    dsimp only [Option.toList, List.cons_append, List.nil_append]
    have t4 : t.toNatClampNeg < 4 := by have := hC.c4; omega
    refine zeGR rfl rfl (shS bb1 (by omega)) rfl rfl ?_
    refine zeP rfl rfl ?_
    refine zeP rfl rfl ?_
    refine zeB1 rfl rfl (fun h2 => ?_) (fun h2 => ?_)
    · refine zeK (v := -1) rfl rfl rfl ?_
      exact zeRe rfl rfl rfl rfl (by simp only [e_leftOut, h1, h2, cond_true, cond_false] <;> rfl) (by simp only [e_leftOut, h1, h2, cond_true, cond_false] <;> rfl)
    · refine zeP rfl rfl ?_
      refine zeP rfl rfl ?_
      refine zeGI rfl rfl (shG bb1 (by omega)) rfl rfl ?_
      refine zeB2 rfl rfl (fun h3 => ?_) (fun h3 => ?_)
      · refine zeK (v := -1) rfl rfl rfl ?_
        exact zeRe rfl rfl rfl rfl (by simp only [e_leftOut, h1, h2, h3, cond_true, cond_false] <;> rfl) (by simp only [e_leftOut, h1, h2, h3, cond_true, cond_false] <;> rfl)
      · refine zeP rfl rfl ?_
        refine zeKn (c := 4) rfl rfl rfl ?_
        refine zeB2 rfl rfl (fun h4 => ?_) (fun h4 => ?_)
        · refine zeK (v := -1) rfl rfl rfl ?_
          exact zeRe rfl rfl rfl rfl (by simp only [e_leftOut, h1, h2, h3, h4, cond_true, cond_false] <;> rfl) (by simp only [e_leftOut, h1, h2, h3, h4, cond_true, cond_false] <;> rfl)
        · have ck : k = Int32.ofNat k.toNatClampNeg ∧ k.toNatClampNeg < 4 := (ige_of (by omega) (by assumption) (by assumption))
          refine zeP rfl rfl ?_
          refine zeGR rfl rfl (shG bb1 (by omega)) rfl rfl ?_
          refine zeKn (c := k.toNatClampNeg) rfl rfl ck.1 ?_
          refine zeAL (k := (k.toNatClampNeg)) rfl (bbl bb1 (by omega) (by omega)) (shO bb1 (by omega)) rfl (by omega) ?_
          refine zeP rfl rfl ?_
          exact zeRe rfl rfl rfl rfl (by simp only [e_leftOut, h1, h2, h3, h4, cond_true, cond_false] <;> rfl) (by simp only [e_leftOut, h1, h2, h3, h4, cond_true, cond_false] <;> rfl)
def e_blocks (m : Nat → Nat → Int32) (t : Int32) (x : Int32) : (Int32 ⊕ Nat) := (bif sOK m t then (bif tOK x then (bif zc1 .ne (Int32.ofNat (x.toNatClampNeg)) then (.inl ((m ((1 + 14 + 7 * t.toNatClampNeg)) 7))) else (.inl ((m ((1 + 14 + 7 * t.toNatClampNeg)) 6)))) else (.inr 1)) else (.inr 0))
theorem ec_blocks {σ : Nat → Nat × (Nat → Int32)} {yy : (Nat → Nat → Int64) × Bool × Nat × Nat} {m : Nat → Nat → Int32} {t : Int32} {x : Int32} (hC : CG m 1) : zF σ 3 1608 [.ref 0, .int t, .int x] (zS1, m, yy) (xo (e_blocks m t x)) (zS1, m, (xy yy (e_blocks m t x))) := by
  intro d hd
  obtain ⟨d, rfl⟩ : ∃ k, d = k + 1 := ⟨d - 1, by omega⟩
  show zEv σ (d + 1) 1608 0 [some (.ref 0), some (.int t), some (.int x), none] [] _ _ _
  refine zeP rfl rfl ?_
  refine zeP rfl rfl ?_
  cases h1 : sOK m t with
  | false =>
    exact zeThX rfl rfl rfl rfl rfl rfl (xn_1638 (m := m) (x := t) h1) (by omega) rfl rfl (by simp only [e_blocks, h1, cond_true, cond_false] <;> rfl) (by simp only [e_blocks, h1, cond_true, cond_false] <;> rfl)
  | true =>
    have c1 := xk_1638 (x := t) hC h1
    refine zeCV rfl rfl rfl rfl zS00 rfl (xo_1638 (m := m) (x := t) h1 hC) (by omega) ?_
    dsimp only [Option.toList, List.cons_append, List.nil_append]
    have t4 : t.toNatClampNeg < 4 := by have := hC.c4; omega
    refine zeGR rfl rfl (shS bb1 (by omega)) rfl rfl ?_
    refine zeP rfl rfl ?_
    refine zeP rfl rfl ?_
    cases h2 : tOK x with
    | false =>
      exact zeThX rfl rfl rfl rfl rfl rfl (xn_1640 (m := m) (x := x) h2) (by omega) rfl rfl (by simp only [e_blocks, h1, h2, cond_true, cond_false] <;> rfl) (by simp only [e_blocks, h1, h2, cond_true, cond_false] <;> rfl)
    | true =>
      have c2 := xk_1640 (x := x) h2
      refine zeCF rfl rfl rfl rfl rfl rfl (xo_1640 (m := m) (x := x) h2) (by omega) ?_
      dsimp only [Option.toList, List.cons_append, List.nil_append]
      refine zeB1 rfl rfl (fun h3 => ?_) (fun h3 => ?_)
      · refine zeP rfl rfl ?_
        refine zeGI rfl rfl (shG bb1 (by omega)) rfl rfl ?_
        exact zeRe rfl rfl rfl rfl (by simp only [e_blocks, h1, h2, h3, cond_true, cond_false] <;> rfl) (by simp only [e_blocks, h1, h2, h3, cond_true, cond_false] <;> rfl)
      · refine zeP rfl rfl ?_
        refine zeGI rfl rfl (shG bb1 (by omega)) rfl rfl ?_
        refine zeP rfl rfl ?_
        exact zeRe rfl rfl rfl rfl (by simp only [e_blocks, h1, h2, h3, cond_true, cond_false] <;> rfl) (by simp only [e_blocks, h1, h2, h3, cond_true, cond_false] <;> rfl)
def xl_fellL (m : Nat → Nat → Int32) (t : Int32) (x : Nat) : Nat → Int32 → Nat → Int32
  | 0, a, k => a
  | n + 1, a, k => (bif zc2 .eq t (-1) then (xl_fellL m t x n ((a + (m ((1 + 13 + 7 * k)) x))) ((k + 1))) else (bif zc2 .ne t (Int32.ofNat k) then (xl_fellL m t x n a ((k + 1))) else (xl_fellL m t x n ((a + (m ((1 + 13 + 7 * k)) x))) ((k + 1)))))
theorem xw_fellL {σ : Nat → Nat × (Nat → Int32)} {yy : (Nat → Nat → Int64) × Bool × Nat × Nat} {m : Nat → Nat → Int32} {t : Int32} {x : Nat} {d : Nat} (hd : 2 ≤ d + 1) (hC : CG m 1) (h4 : mv m 1 5 ≤ 4) (hx : x < 5) : ∀ (n : Nat) (a : Int32) (k : Nat), k + n = mv m 1 5 → zEv σ (d + 1) 1609 35 [some (.ref 0), some (.int t), some (.int (Int32.ofNat x)), some (.int a), some (.int (Int32.ofNat k))] [] (zS1, m, yy) (.inl (some (.int (xl_fellL m t x n a k)))) (zS1, m, yy) := by
  intro n
  induction n with
  | zero =>
    intro a k hk
    refine zeP rfl rfl ?_
    refine zeP rfl rfl ?_
    refine zeGR rfl rfl zS00 rfl rfl ?_
    refine zeGI rfl rfl (shM bb1) rfl rfl ?_
    rw [hC.c]
    refine zeT2 rfl rfl (zcge (by omega) (by omega) (by omega)) ?_
    refine zeP rfl rfl ?_
    exact zeRe rfl rfl rfl rfl (by rfl) (by rfl)
  | succ n ih =>
    intro a k hk
    refine zeP rfl rfl ?_
    refine zeP rfl rfl ?_
    refine zeGR rfl rfl zS00 rfl rfl ?_
    refine zeGI rfl rfl (shM bb1) rfl rfl ?_
    rw [hC.c]
    refine zeF2 rfl rfl (zcge_f (by omega) (by omega) (by omega)) ?_
    refine zeP rfl rfl ?_
    refine zeK (v := -1) rfl rfl rfl ?_
    refine zeB2 rfl rfl (fun h1 => ?_) (fun h1 => ?_)
    · refine zeP rfl rfl ?_
      refine zeP rfl rfl ?_
      refine zeGR rfl rfl zS00 rfl rfl ?_
      refine zeP rfl rfl ?_
      refine zeCV rfl rfl rfl rfl (shM bb1) rfl (xc_strandAt (m := m) (b := 1) (t := k) bb1 (by omega)) (by omega) ?_
      dsimp only [Option.toList, List.cons_append, List.nil_append]
      refine zeGR rfl rfl (shS bb1 (by omega)) rfl rfl ?_
      refine zeP rfl rfl ?_
      refine zeAL (k := x) rfl (bbl bb1 (by omega) (by omega)) (shF bb1 (by omega)) rfl (by omega) ?_
      refine zeP rfl rfl ?_
      refine zeP rfl rfl ?_
      refine zeInc rfl rfl ?_
      refine zeP rfl rfl ?_
      simp only [xl_fellL, h1, cond_true, cond_false]
      exact ih ((a + (m ((1 + 13 + 7 * k)) x))) ((k + 1))   (by omega) 
    · refine zeP rfl rfl ?_
      refine zeP rfl rfl ?_
      refine zeB2 rfl rfl (fun h2 => ?_) (fun h2 => ?_)
      · refine zeInc rfl rfl ?_
        refine zeP rfl rfl ?_
        simp only [xl_fellL, h1, h2, cond_true, cond_false]
        exact ih (a) ((k + 1))   (by omega) 
      · refine zeP rfl rfl ?_
        refine zeP rfl rfl ?_
        refine zeGR rfl rfl zS00 rfl rfl ?_
        refine zeP rfl rfl ?_
        refine zeCV rfl rfl rfl rfl (shM bb1) rfl (xc_strandAt (m := m) (b := 1) (t := k) bb1 (by omega)) (by omega) ?_
        dsimp only [Option.toList, List.cons_append, List.nil_append]
        refine zeGR rfl rfl (shS bb1 (by omega)) rfl rfl ?_
        refine zeP rfl rfl ?_
        refine zeAL (k := x) rfl (bbl bb1 (by omega) (by omega)) (shF bb1 (by omega)) rfl (by omega) ?_
        refine zeP rfl rfl ?_
        refine zeP rfl rfl ?_
        refine zeInc rfl rfl ?_
        refine zeP rfl rfl ?_
        simp only [xl_fellL, h1, h2, cond_true, cond_false]
        exact ih ((a + (m ((1 + 13 + 7 * k)) x))) ((k + 1))   (by omega) 
def e_fell (m : Nat → Nat → Int32) (t : Int32) (x : Int32) : (Int32 ⊕ Nat) := (bif zc2 .eq t (-1) then (bif zc1 .lt x then (.inr 1) else (bif zc2 .lt x (Int32.ofNat 5) then (.inl (xl_fellL m t ((x.toNatClampNeg)) ((mv m 1 5)) ((Int32.ofNat 0)) 0)) else (.inr 1))) else (bif sOK m t then (bif zc1 .lt x then (.inr 1) else (bif zc2 .lt x (Int32.ofNat 5) then (.inl (xl_fellL m t ((x.toNatClampNeg)) ((mv m 1 5)) ((Int32.ofNat 0)) 0)) else (.inr 1))) else (.inr 0)))
theorem ec_fell {σ : Nat → Nat × (Nat → Int32)} {yy : (Nat → Nat → Int64) × Bool × Nat × Nat} {m : Nat → Nat → Int32} {t : Int32} {x : Int32} (hC : CG m 1) : zF σ 3 1609 [.ref 0, .int t, .int x] (zS1, m, yy) (xo (e_fell m t x)) (zS1, m, (xy yy (e_fell m t x))) := by
  intro d hd
  obtain ⟨d, rfl⟩ : ∃ k, d = k + 1 := ⟨d - 1, by omega⟩
  show zEv σ (d + 1) 1609 0 [some (.ref 0), some (.int t), some (.int x), none, none] [] _ _ _
  refine zeP rfl rfl ?_
  refine zeK (v := -1) rfl rfl rfl ?_
  refine zeB2 rfl rfl (fun h1 => ?_) (fun h1 => ?_)
  · refine zeP rfl rfl ?_
    refine zeB1 rfl rfl (fun h2 => ?_) (fun h2 => ?_)
    · exact zeThr rfl rfl rfl rfl rfl rfl (by simp only [e_fell, h1, h2, cond_true, cond_false] <;> rfl) (by simp only [e_fell, h1, h2, cond_true, cond_false] <;> rfl)
    · refine zeP rfl rfl ?_
      refine zeKn (c := 5) rfl rfl rfl ?_
      refine zeB2 rfl rfl (fun h3 => ?_) (fun h3 => ?_)
      · have cx : x = Int32.ofNat x.toNatClampNeg ∧ x.toNatClampNeg < 5 := (i4_of (by omega) (by assumption) (by assumption))
        refine zeKn (c := 0) rfl rfl rfl ?_
        refine zeP rfl rfl ?_
        refine zeKn (c := 0) rfl rfl rfl ?_
        refine zeP rfl rfl ?_
        simp only [e_fell, h1, h2, h3, cond_true, cond_false]
        have ez := xw_fellL (σ := σ) (yy := yy) (d := d) (t := t) (x := (x.toNatClampNeg)) (m := m) (by omega) hC hC.c4 cx.2 ((mv m 1 5)) ((Int32.ofNat 0)) (0)   (by omega) 
        rw [← cx.1] at ez
        exact ez
      · exact zeThr rfl rfl rfl rfl rfl rfl (by simp only [e_fell, h1, h2, h3, cond_true, cond_false] <;> rfl) (by simp only [e_fell, h1, h2, h3, cond_true, cond_false] <;> rfl)
  · refine zeP rfl rfl ?_
    refine zeP rfl rfl ?_
    cases h4 : sOK m t with
    | false =>
      exact zeThX rfl rfl rfl rfl rfl rfl (xn_1638 (m := m) (x := t) h4) (by omega) rfl rfl (by simp only [e_fell, h1, h4, cond_true, cond_false] <;> rfl) (by simp only [e_fell, h1, h4, cond_true, cond_false] <;> rfl)
    | true =>
      have c4 := xk_1638 (x := t) hC h4
      refine zeCV rfl rfl rfl rfl zS00 rfl (xo_1638 (m := m) (x := t) h4 hC) (by omega) ?_
      dsimp only [Option.toList, List.cons_append, List.nil_append]
      refine zeP rfl rfl ?_
      refine zeP rfl rfl ?_
      refine zeB1 rfl rfl (fun h5 => ?_) (fun h5 => ?_)
      · exact zeThr rfl rfl rfl rfl rfl rfl (by simp only [e_fell, h1, h4, h5, cond_true, cond_false] <;> rfl) (by simp only [e_fell, h1, h4, h5, cond_true, cond_false] <;> rfl)
      · refine zeP rfl rfl ?_
        refine zeKn (c := 5) rfl rfl rfl ?_
        refine zeB2 rfl rfl (fun h6 => ?_) (fun h6 => ?_)
        · have cx : x = Int32.ofNat x.toNatClampNeg ∧ x.toNatClampNeg < 5 := (i4_of (by omega) (by assumption) (by assumption))
          refine zeKn (c := 0) rfl rfl rfl ?_
          refine zeP rfl rfl ?_
          refine zeKn (c := 0) rfl rfl rfl ?_
          refine zeP rfl rfl ?_
          simp only [e_fell, h1, h4, h5, h6, cond_true, cond_false]
          have ez := xw_fellL (σ := σ) (yy := yy) (d := d) (t := t) (x := (x.toNatClampNeg)) (m := m) (by omega) hC hC.c4 cx.2 ((mv m 1 5)) ((Int32.ofNat 0)) (0)   (by omega) 
          rw [← cx.1] at ez
          exact ez
        · exact zeThr rfl rfl rfl rfl rfl rfl (by simp only [e_fell, h1, h4, h5, h6, cond_true, cond_false] <;> rfl) (by simp only [e_fell, h1, h4, h5, h6, cond_true, cond_false] <;> rfl)
def e_word (m : Nat → Nat → Int32) (w : Int32) : (Int32 ⊕ Nat) := (bif wOK w then (.inl ((m ((1 + 1)) ((w.toNatClampNeg))))) else (.inr 0))
theorem ec_word {σ : Nat → Nat × (Nat → Int32)} {yy : (Nat → Nat → Int64) × Bool × Nat × Nat} {m : Nat → Nat → Int32} {w : Int32} : zF σ 3 1610 [.ref 0, .int w] (zS1, m, yy) (xo (e_word m w)) (zS1, m, (xy yy (e_word m w))) := by
  intro d hd
  obtain ⟨d, rfl⟩ : ∃ k, d = k + 1 := ⟨d - 1, by omega⟩
  show zEv σ (d + 1) 1610 0 [some (.ref 0), some (.int w)] [] _ _ _
  refine zeP rfl rfl ?_
  refine zeGR rfl rfl zS00 rfl rfl ?_
  refine zeGR rfl rfl (shM bb1) rfl rfl ?_
  refine zeP rfl rfl ?_
  cases h1 : wOK w with
  | false =>
    exact zeThX rfl rfl rfl rfl rfl rfl (xn_1639 (m := m) (x := w) h1) (by omega) rfl rfl (by simp only [e_word, h1, cond_true, cond_false] <;> rfl) (by simp only [e_word, h1, cond_true, cond_false] <;> rfl)
  | true =>
    have c1 := xk_1639 (x := w) h1
    refine zeCF rfl rfl rfl rfl rfl rfl (xo_1639 (m := m) (x := w) h1) (by omega) ?_
    dsimp only [Option.toList, List.cons_append, List.nil_append]
    refine zeAL (k := (w.toNatClampNeg)) rfl rfl (shW bb1) rfl (by omega) ?_
    exact zeRe rfl rfl rfl rfl (by simp only [e_word, h1, cond_true, cond_false] <;> rfl) (by simp only [e_word, h1, cond_true, cond_false] <;> rfl)
def e_sees (m : Nat → Nat → Int32) (t : Int32) (w : Int32) : (Int32 ⊕ Nat) := (bif sOK m t then (bif wOK w then (.inl ((x_seenBy m 1 (t.toNatClampNeg) ((w.toNatClampNeg))))) else (.inr 0)) else (.inr 0))
theorem ec_sees {σ : Nat → Nat × (Nat → Int32)} {yy : (Nat → Nat → Int64) × Bool × Nat × Nat} {m : Nat → Nat → Int32} {t : Int32} {w : Int32} (hC : CG m 1) : zF σ 3 1611 [.ref 0, .int t, .int w] (zS1, m, yy) (xo (e_sees m t w)) (zS1, m, (xy yy (e_sees m t w))) := by
  intro d hd
  obtain ⟨d, rfl⟩ : ∃ k, d = k + 1 := ⟨d - 1, by omega⟩
  show zEv σ (d + 1) 1611 0 [some (.ref 0), some (.int t), some (.int w), none] [] _ _ _
  refine zeP rfl rfl ?_
  refine zeP rfl rfl ?_
  cases h1 : sOK m t with
  | false =>
    exact zeThX rfl rfl rfl rfl rfl rfl (xn_1638 (m := m) (x := t) h1) (by omega) rfl rfl (by simp only [e_sees, h1, cond_true, cond_false] <;> rfl) (by simp only [e_sees, h1, cond_true, cond_false] <;> rfl)
  | true =>
    have c1 := xk_1638 (x := t) hC h1
    refine zeCV rfl rfl rfl rfl zS00 rfl (xo_1638 (m := m) (x := t) h1 hC) (by omega) ?_
    dsimp only [Option.toList, List.cons_append, List.nil_append]
    refine zeP rfl rfl ?_
    have t4 : t.toNatClampNeg < 4 := by have := hC.c4; omega
    refine zeP rfl rfl ?_
    refine zeGR rfl rfl zS00 rfl rfl ?_
    refine zeP rfl rfl ?_
    refine zeP rfl rfl ?_
    cases h2 : wOK w with
    | false =>
      exact zeThX rfl rfl rfl rfl rfl rfl (xn_1639 (m := m) (x := w) h2) (by omega) rfl rfl (by simp only [e_sees, h1, h2, cond_true, cond_false] <;> rfl) (by simp only [e_sees, h1, h2, cond_true, cond_false] <;> rfl)
    | true =>
      have c2 := xk_1639 (x := w) h2
      refine zeCF rfl rfl rfl rfl rfl rfl (xo_1639 (m := m) (x := w) h2) (by omega) ?_
      dsimp only [Option.toList, List.cons_append, List.nil_append]
      refine zeCV rfl rfl rfl rfl (shM bb1) rfl (xc_seenBy (m := m) (b := 1) (t := t.toNatClampNeg) (w := (w.toNatClampNeg)) bb1 t4 (by omega)) (by omega) ?_
      dsimp only [Option.toList, List.cons_append, List.nil_append]
      exact zeRe rfl rfl rfl rfl (by simp only [e_sees, h1, h2, cond_true, cond_false] <;> rfl) (by simp only [e_sees, h1, h2, cond_true, cond_false] <;> rfl)
def e_lock (m : Nat → Nat → Int32) (l : Int32) (x : Int32) : (Int32 ⊕ Nat) := (bif zc1 .lt l then (.inr 0) else (bif zc2 .lt l (Int32.ofNat 4) then (bif decide (x = Int32.ofNat 0) then (.inl ((m ((1 + 5 + ((l.toNatClampNeg)))) 0))) else (bif decide (x = Int32.ofNat 1) then (.inl ((m ((1 + 1)) ((mv m (1 + 5 + l.toNatClampNeg) 0))))) else (bif decide (x = Int32.ofNat 2) then (.inl ((m ((1 + 5 + ((l.toNatClampNeg)))) 1))) else (bif decide (x = Int32.ofNat 3) then (.inl ((m ((1 + 5 + ((l.toNatClampNeg)))) 2))) else (bif decide (x = Int32.ofNat 4) then (.inl ((x_leavingOut m 1 ((Int32.ofNat (l.toNatClampNeg)))))) else (bif decide (x = Int32.ofNat 5) then (.inl ((m ((1 + 5 + ((l.toNatClampNeg)))) 3))) else (.inr 1))))))) else (.inr 0)))
theorem ec_lock {σ : Nat → Nat × (Nat → Int32)} {yy : (Nat → Nat → Int64) × Bool × Nat × Nat} {m : Nat → Nat → Int32} {l : Int32} {x : Int32} (hC : CG m 1) : zF σ 3 1612 [.ref 0, .int l, .int x] (zS1, m, yy) (xo (e_lock m l x)) (zS1, m, (xy yy (e_lock m l x))) := by
  intro d hd
  obtain ⟨d, rfl⟩ : ∃ k, d = k + 1 := ⟨d - 1, by omega⟩
  show zEv σ (d + 1) 1612 0 [some (.ref 0), some (.int l), some (.int x), none] [] _ _ _
  refine zeP rfl rfl ?_
  refine zeB1 rfl rfl (fun h1 => ?_) (fun h1 => ?_)
  · exact zeThr rfl rfl rfl rfl rfl rfl (by simp only [e_lock, h1, cond_true, cond_false] <;> rfl) (by simp only [e_lock, h1, cond_true, cond_false] <;> rfl)
  · refine zeP rfl rfl ?_
    refine zeKn (c := 4) rfl rfl rfl ?_
    refine zeB2 rfl rfl (fun h2 => ?_) (fun h2 => ?_)
    · have cl : l = Int32.ofNat l.toNatClampNeg ∧ l.toNatClampNeg < 4 := (i4_of (by omega) (by assumption) (by assumption))
      refine zeP rfl rfl ?_
      refine zeGR rfl rfl zS00 rfl rfl ?_
      refine zeKn (c := l.toNatClampNeg) rfl rfl cl.1 ?_
      refine zeCV rfl rfl rfl rfl (shM bb1) rfl (xc_lockAt (m := m) (b := 1) (l := (l.toNatClampNeg)) bb1 cl.2) (by omega) ?_
      dsimp only [Option.toList, List.cons_append, List.nil_append]
      refine zeP rfl rfl ?_
      refine zeP rfl rfl ?_
      cases h3 : decide (x = Int32.ofNat 0) with
      | true =>
        refine zeSw (K := 0) rfl (of_decide_eq_true h3) rfl ?_
        refine zeP rfl rfl ?_
        refine zeGI rfl rfl (shL bb1 (by omega)) rfl rfl ?_
        exact zeRe rfl rfl rfl rfl (by simp only [e_lock, h1, h2, h3, cond_true, cond_false] <;> rfl) (by simp only [e_lock, h1, h2, h3, cond_true, cond_false] <;> rfl)
      | false =>
        cases h4 : decide (x = Int32.ofNat 1) with
        | true =>
          refine zeSw (K := 1) rfl (of_decide_eq_true h4) rfl ?_
          refine zeP rfl rfl ?_
          refine zeGR rfl rfl zS00 rfl rfl ?_
          refine zeGR rfl rfl (shM bb1) rfl rfl ?_
          refine zeP rfl rfl ?_
          refine zeGI rfl rfl (shL bb1 (by omega)) rfl rfl ?_
          rw [(hC.w cl.2).1]
          refine zeKn (c := 31) rfl rfl rfl ?_
          refine zeON (c := (mv m (1 + 5 + l.toNatClampNeg) 0)) rfl rfl (zand31 _ (by have := (hC.w cl.2).2; omega)) ?_
          refine zeAL (k := (mv m (1 + 5 + l.toNatClampNeg) 0)) rfl rfl (shW bb1) rfl (by have := (hC.w cl.2).2; omega) ?_
          exact zeRe rfl rfl rfl rfl (by simp only [e_lock, h1, h2, h3, h4, cond_true, cond_false] <;> rfl) (by simp only [e_lock, h1, h2, h3, h4, cond_true, cond_false] <;> rfl)
        | false =>
          cases h5 : decide (x = Int32.ofNat 2) with
          | true =>
            refine zeSw (K := 2) rfl (of_decide_eq_true h5) rfl ?_
            refine zeP rfl rfl ?_
            refine zeGI rfl rfl (shL bb1 (by omega)) rfl rfl ?_
            exact zeRe rfl rfl rfl rfl (by simp only [e_lock, h1, h2, h3, h4, h5, cond_true, cond_false] <;> rfl) (by simp only [e_lock, h1, h2, h3, h4, h5, cond_true, cond_false] <;> rfl)
          | false =>
            cases h6 : decide (x = Int32.ofNat 3) with
            | true =>
              refine zeSw (K := 3) rfl (of_decide_eq_true h6) rfl ?_
              refine zeP rfl rfl ?_
              refine zeGI rfl rfl (shL bb1 (by omega)) rfl rfl ?_
              exact zeRe rfl rfl rfl rfl (by simp only [e_lock, h1, h2, h3, h4, h5, h6, cond_true, cond_false] <;> rfl) (by simp only [e_lock, h1, h2, h3, h4, h5, h6, cond_true, cond_false] <;> rfl)
            | false =>
              cases h7 : decide (x = Int32.ofNat 4) with
              | true =>
                refine zeSw (K := 4) rfl (of_decide_eq_true h7) rfl ?_
                refine zeP rfl rfl ?_
                refine zeGR rfl rfl zS00 rfl rfl ?_
                refine zeKn (c := l.toNatClampNeg) rfl rfl cl.1 ?_
                refine zeCV rfl rfl rfl rfl (shM bb1) rfl (xc_leavingOut (m := m) (b := 1) (l := (Int32.ofNat (l.toNatClampNeg))) bb1 hC) (by omega) ?_
                dsimp only [Option.toList, List.cons_append, List.nil_append]
                exact zeRe rfl rfl rfl rfl (by simp only [e_lock, h1, h2, h3, h4, h5, h6, h7, cond_true, cond_false] <;> rfl) (by simp only [e_lock, h1, h2, h3, h4, h5, h6, h7, cond_true, cond_false] <;> rfl)
              | false =>
                cases h8 : decide (x = Int32.ofNat 5) with
                | true =>
                  refine zeSw (K := 5) rfl (of_decide_eq_true h8) rfl ?_
                  refine zeP rfl rfl ?_
                  refine zeGI rfl rfl (shL bb1 (by omega)) rfl rfl ?_
                  exact zeRe rfl rfl rfl rfl (by simp only [e_lock, h1, h2, h3, h4, h5, h6, h7, h8, cond_true, cond_false] <;> rfl) (by simp only [e_lock, h1, h2, h3, h4, h5, h6, h7, h8, cond_true, cond_false] <;> rfl)
                | false =>
                  refine zeSwD rfl (zsw5 (of_decide_eq_false h3) (of_decide_eq_false h4) (of_decide_eq_false h5) (of_decide_eq_false h6) (of_decide_eq_false h7) (of_decide_eq_false h8)) rfl ?_
                  exact zeThr rfl rfl rfl rfl rfl rfl (by simp only [e_lock, h1, h2, h3, h4, h5, h6, h7, h8, cond_true, cond_false] <;> rfl) (by simp only [e_lock, h1, h2, h3, h4, h5, h6, h7, h8, cond_true, cond_false] <;> rfl)
    · exact zeThr rfl rfl rfl rfl rfl rfl (by simp only [e_lock, h1, h2, cond_true, cond_false] <;> rfl) (by simp only [e_lock, h1, h2, cond_true, cond_false] <;> rfl)
def e_term (m : Nat → Nat → Int32) (x : Int32) : (Int32 ⊕ Nat) := (bif zc1 .lt x then (.inr 1) else (bif zc2 .le x (Int32.ofNat 8) then (.inl ((m ((1 + 3)) ((x.toNatClampNeg))))) else (.inr 1)))
theorem ec_term {σ : Nat → Nat × (Nat → Int32)} {yy : (Nat → Nat → Int64) × Bool × Nat × Nat} {m : Nat → Nat → Int32} {x : Int32} : zF σ 1 1613 [.ref 0, .int x] (zS1, m, yy) (xo (e_term m x)) (zS1, m, (xy yy (e_term m x))) := by
  intro d hd
  obtain ⟨d, rfl⟩ : ∃ k, d = k + 1 := ⟨d - 1, by omega⟩
  show zEv σ (d + 1) 1613 0 [some (.ref 0), some (.int x)] [] _ _ _
  refine zeP rfl rfl ?_
  refine zeB1 rfl rfl (fun h1 => ?_) (fun h1 => ?_)
  · exact zeThr rfl rfl rfl rfl rfl rfl (by simp only [e_term, h1, cond_true, cond_false] <;> rfl) (by simp only [e_term, h1, cond_true, cond_false] <;> rfl)
  · refine zeP rfl rfl ?_
    refine zeKn (c := 8) rfl rfl rfl ?_
    refine zeB2 rfl rfl (fun h2 => ?_) (fun h2 => ?_)
    · have cx : x = Int32.ofNat x.toNatClampNeg ∧ x.toNatClampNeg ≤ 8 := (i7_of (by omega) (by assumption) (by assumption))
      refine zeP rfl rfl ?_
      refine zeGR rfl rfl zS00 rfl rfl ?_
      refine zeGR rfl rfl (shM bb1) rfl rfl ?_
      refine zeKn (c := x.toNatClampNeg) rfl rfl cx.1 ?_
      refine zeAL (k := (x.toNatClampNeg)) rfl rfl (shE bb1) rfl (by omega) ?_
      exact zeRe rfl rfl rfl rfl (by simp only [e_term, h1, h2, cond_true, cond_false] <;> rfl) (by simp only [e_term, h1, h2, cond_true, cond_false] <;> rfl)
    · exact zeThr rfl rfl rfl rfl rfl rfl (by simp only [e_term, h1, h2, cond_true, cond_false] <;> rfl) (by simp only [e_term, h1, h2, cond_true, cond_false] <;> rfl)
def e_deed (m : Nat → Nat → Int32) (t : Int32) (k : Int32) (x : Int32) : (Int32 ⊕ Nat) := (bif sOK m t then (bif tOK x then (bif zc1 .ne (Int32.ofNat (x.toNatClampNeg)) then (bif zc1 .lt k then (.inl ((-1))) else (bif zc2 .lt k (Int32.ofNat (mv m (1 + 10 + 7 * t.toNatClampNeg) 2)) then (.inl ((x_numberAt m 1 (t.toNatClampNeg) ((k.toNatClampNeg))))) else (.inl ((-1))))) else (bif zc1 .lt k then (.inl ((-1))) else (bif zc2 .lt k (Int32.ofNat (mv m (1 + 10 + 7 * t.toNatClampNeg) 2)) then (.inl ((x_kindAt m 1 (t.toNatClampNeg) ((k.toNatClampNeg))))) else (.inl ((-1)))))) else (.inr 1)) else (.inr 0))
theorem ec_deed {σ : Nat → Nat × (Nat → Int32)} {yy : (Nat → Nat → Int64) × Bool × Nat × Nat} {m : Nat → Nat → Int32} {t : Int32} {k : Int32} {x : Int32} (hC : CG m 1) (hK : KX m 1 P0) : zF σ 3 1614 [.ref 0, .int t, .int k, .int x] (zS1, m, yy) (xo (e_deed m t k x)) (zS1, m, (xy yy (e_deed m t k x))) := by
  intro d hd
  obtain ⟨d, rfl⟩ : ∃ k, d = k + 1 := ⟨d - 1, by omega⟩
  show zEv σ (d + 1) 1614 0 [some (.ref 0), some (.int t), some (.int k), some (.int x), none, none] [] _ _ _
  refine zeP rfl rfl ?_
  refine zeP rfl rfl ?_
  cases h1 : sOK m t with
  | false =>
    exact zeThX rfl rfl rfl rfl rfl rfl (xn_1638 (m := m) (x := t) h1) (by omega) rfl rfl (by simp only [e_deed, h1, cond_true, cond_false] <;> rfl) (by simp only [e_deed, h1, cond_true, cond_false] <;> rfl)
  | true =>
    have c1 := xk_1638 (x := t) hC h1
    refine zeCV rfl rfl rfl rfl zS00 rfl (xo_1638 (m := m) (x := t) h1 hC) (by omega) ?_
    dsimp only [Option.toList, List.cons_append, List.nil_append]
    refine zeP rfl rfl ?_
    have t4 : t.toNatClampNeg < 4 := by have := hC.c4; omega
    refine zeP rfl rfl ?_
    cases h2 : tOK x with
    | false =>
      exact zeThX rfl rfl rfl rfl rfl rfl (xn_1640 (m := m) (x := x) h2) (by omega) rfl rfl (by simp only [e_deed, h1, h2, cond_true, cond_false] <;> rfl) (by simp only [e_deed, h1, h2, cond_true, cond_false] <;> rfl)
    | true =>
      have c2 := xk_1640 (x := x) h2
      refine zeCF rfl rfl rfl rfl rfl rfl (xo_1640 (m := m) (x := x) h2) (by omega) ?_
      dsimp only [Option.toList, List.cons_append, List.nil_append]
      refine zeB1 rfl rfl (fun h3 => ?_) (fun h3 => ?_)
      · refine zeKn (c := 0) rfl rfl rfl ?_
        refine zeP rfl rfl ?_
        refine zeP rfl rfl ?_
        refine zeB1 rfl rfl (fun h4 => ?_) (fun h4 => ?_)
        · refine zeK (v := -1) rfl rfl rfl ?_
          exact zeRe rfl rfl rfl rfl (by simp only [e_deed, h1, h2, h3, h4, cond_true, cond_false] <;> rfl) (by simp only [e_deed, h1, h2, h3, h4, cond_true, cond_false] <;> rfl)
        · refine zeP rfl rfl ?_
          refine zeP rfl rfl ?_
          refine zeGI rfl rfl (shS bb1 (by omega)) rfl rfl ?_
          rw [(hK.1 t.toNatClampNeg t4).1.1]
          refine zeB2 rfl rfl (fun h5 => ?_) (fun h5 => ?_)
          · have ck : k = Int32.ofNat k.toNatClampNeg ∧ k.toNatClampNeg < mv m (1 + 10 + 7 * t.toNatClampNeg) 2 := (i4_of (by have := (hK.1 t.toNatClampNeg t4).1.2; omega) (by assumption) (by assumption))
            refine zeP rfl rfl ?_
            refine zeT1 rfl rfl (show zc1 .eq (Int32.ofNat 0) = true by decide) ?_
            refine zeP rfl rfl ?_
            refine zeKn (c := k.toNatClampNeg) rfl rfl ck.1 ?_
            refine zeCV rfl rfl rfl rfl (shS bb1 (by omega)) rfl (xc_numberAt (m := m) (b := 1) (t := t.toNatClampNeg) (p := (k.toNatClampNeg)) bb1 t4 (by have := (hK.1 t.toNatClampNeg t4).1.2; omega)) (by omega) ?_
            dsimp only [Option.toList, List.cons_append, List.nil_append]
            exact zeRe rfl rfl rfl rfl (by simp only [e_deed, h1, h2, h3, h4, h5, cond_true, cond_false] <;> rfl) (by simp only [e_deed, h1, h2, h3, h4, h5, cond_true, cond_false] <;> rfl)
          · refine zeK (v := -1) rfl rfl rfl ?_
            exact zeRe rfl rfl rfl rfl (by simp only [e_deed, h1, h2, h3, h4, h5, cond_true, cond_false] <;> rfl) (by simp only [e_deed, h1, h2, h3, h4, h5, cond_true, cond_false] <;> rfl)
      · refine zeKn (c := 1) rfl rfl rfl ?_
        refine zeP rfl rfl ?_
        refine zeP rfl rfl ?_
        refine zeP rfl rfl ?_
        refine zeB1 rfl rfl (fun h6 => ?_) (fun h6 => ?_)
        · refine zeK (v := -1) rfl rfl rfl ?_
          exact zeRe rfl rfl rfl rfl (by simp only [e_deed, h1, h2, h3, h6, cond_true, cond_false] <;> rfl) (by simp only [e_deed, h1, h2, h3, h6, cond_true, cond_false] <;> rfl)
        · refine zeP rfl rfl ?_
          refine zeP rfl rfl ?_
          refine zeGI rfl rfl (shS bb1 (by omega)) rfl rfl ?_
          rw [(hK.1 t.toNatClampNeg t4).1.1]
          refine zeB2 rfl rfl (fun h7 => ?_) (fun h7 => ?_)
          · have ck : k = Int32.ofNat k.toNatClampNeg ∧ k.toNatClampNeg < mv m (1 + 10 + 7 * t.toNatClampNeg) 2 := (i4_of (by have := (hK.1 t.toNatClampNeg t4).1.2; omega) (by assumption) (by assumption))
            refine zeP rfl rfl ?_
            refine zeF1 rfl rfl (show zc1 .eq (Int32.ofNat 1) = false by decide) ?_
            refine zeP rfl rfl ?_
            refine zeKn (c := k.toNatClampNeg) rfl rfl ck.1 ?_
            refine zeCV rfl rfl rfl rfl (shS bb1 (by omega)) rfl (xc_kindAt (m := m) (b := 1) (t := t.toNatClampNeg) (p := (k.toNatClampNeg)) bb1 t4 (by have := (hK.1 t.toNatClampNeg t4).1.2; omega)) (by omega) ?_
            dsimp only [Option.toList, List.cons_append, List.nil_append]
            refine zeP rfl rfl ?_
            exact zeRe rfl rfl rfl rfl (by simp only [e_deed, h1, h2, h3, h6, h7, cond_true, cond_false] <;> rfl) (by simp only [e_deed, h1, h2, h3, h6, h7, cond_true, cond_false] <;> rfl)
          · refine zeK (v := -1) rfl rfl rfl ?_
            exact zeRe rfl rfl rfl rfl (by simp only [e_deed, h1, h2, h3, h6, h7, cond_true, cond_false] <;> rfl) (by simp only [e_deed, h1, h2, h3, h6, h7, cond_true, cond_false] <;> rfl)
def e_nest (m : Nat → Nat → Int32) (t : Int32) : (Int32 ⊕ Nat) := (bif sOK m t then (.inl ((x_mostHeld m 1 (t.toNatClampNeg)))) else (.inr 0))
theorem ec_nest {σ : Nat → Nat × (Nat → Int32)} {yy : (Nat → Nat → Int64) × Bool × Nat × Nat} {m : Nat → Nat → Int32} {t : Int32} (hC : CG m 1) (hK : KX m 1 P0) : zF σ 4 1628 [.ref 0, .int t] (zS1, m, yy) (xo (e_nest m t)) (zS1, m, (xy yy (e_nest m t))) := by
  intro d hd
  obtain ⟨d, rfl⟩ : ∃ k, d = k + 1 := ⟨d - 1, by omega⟩
  show zEv σ (d + 1) 1628 0 [some (.ref 0), some (.int t)] [] _ _ _
  refine zeP rfl rfl ?_
  refine zeP rfl rfl ?_
  cases h1 : sOK m t with
  | false =>
    exact zeThX rfl rfl rfl rfl rfl rfl (xn_1638 (m := m) (x := t) h1) (by omega) rfl rfl (by simp only [e_nest, h1, cond_true, cond_false] <;> rfl) (by simp only [e_nest, h1, cond_true, cond_false] <;> rfl)
  | true =>
    have c1 := xk_1638 (x := t) hC h1
    refine zeCV rfl rfl rfl rfl zS00 rfl (xo_1638 (m := m) (x := t) h1 hC) (by omega) ?_
    dsimp only [Option.toList, List.cons_append, List.nil_append]
    have t4 : t.toNatClampNeg < 4 := by have := hC.c4; omega
    refine zeCV rfl rfl rfl rfl (shS bb1 (by omega)) rfl (xc_mostHeld (m := m) (b := 1) (t := t.toNatClampNeg) bb1 t4 (hK.1 t.toNatClampNeg t4)) (by omega) ?_
    dsimp only [Option.toList, List.cons_append, List.nil_append]
    exact zeRe rfl rfl rfl rfl (by simp only [e_nest, h1, cond_true, cond_false] <;> rfl) (by simp only [e_nest, h1, cond_true, cond_false] <;> rfl)
def e_parts (m : Nat → Nat → Int32) (t : Int32) : (Int32 ⊕ Nat) := (bif sOK m t then (.inl ((x_partCount m 1 (t.toNatClampNeg)))) else (.inr 0))
theorem ec_parts {σ : Nat → Nat × (Nat → Int32)} {yy : (Nat → Nat → Int64) × Bool × Nat × Nat} {m : Nat → Nat → Int32} {t : Int32} (hC : CG m 1) (hK : KX m 1 P0) : zF σ 5 1629 [.ref 0, .int t] (zS1, m, yy) (xo (e_parts m t)) (zS1, m, (xy yy (e_parts m t))) := by
  intro d hd
  obtain ⟨d, rfl⟩ : ∃ k, d = k + 1 := ⟨d - 1, by omega⟩
  show zEv σ (d + 1) 1629 0 [some (.ref 0), some (.int t)] [] _ _ _
  refine zeP rfl rfl ?_
  refine zeP rfl rfl ?_
  cases h1 : sOK m t with
  | false =>
    exact zeThX rfl rfl rfl rfl rfl rfl (xn_1638 (m := m) (x := t) h1) (by omega) rfl rfl (by simp only [e_parts, h1, cond_true, cond_false] <;> rfl) (by simp only [e_parts, h1, cond_true, cond_false] <;> rfl)
  | true =>
    have c1 := xk_1638 (x := t) hC h1
    refine zeCV rfl rfl rfl rfl zS00 rfl (xo_1638 (m := m) (x := t) h1 hC) (by omega) ?_
    dsimp only [Option.toList, List.cons_append, List.nil_append]
    have t4 : t.toNatClampNeg < 4 := by have := hC.c4; omega
    refine zeCV rfl rfl rfl rfl (shS bb1 (by omega)) rfl (xc_partCount (m := m) (b := 1) (t := t.toNatClampNeg) bb1 t4 (hK.1 t.toNatClampNeg t4)) (by omega) ?_
    dsimp only [Option.toList, List.cons_append, List.nil_append]
    exact zeRe rfl rfl rfl rfl (by simp only [e_parts, h1, cond_true, cond_false] <;> rfl) (by simp only [e_parts, h1, cond_true, cond_false] <;> rfl)
def e_output (m : Nat → Nat → Int32) (k : Int32) (x : Int32) : (Int32 ⊕ Nat) := (bif tOK x then (bif zc1 .ne (Int32.ofNat (x.toNatClampNeg)) then (bif zc1 .lt k then (.inl ((-1))) else (bif zc2 .ge k (m 1 12) then (.inl ((-1))) else (bif zc2 .lt k (Int32.ofNat 20) then (.inl ((m ((1 + 39)) ((k.toNatClampNeg))))) else (.inl ((-1)))))) else (bif zc1 .lt k then (.inl ((-1))) else (bif zc2 .ge k (m 1 12) then (.inl ((-1))) else (bif zc2 .lt k (Int32.ofNat 20) then (.inl ((m ((1 + 38)) ((k.toNatClampNeg))))) else (.inl ((-1))))))) else (.inr 1))
theorem ec_output {σ : Nat → Nat × (Nat → Int32)} {yy : (Nat → Nat → Int64) × Bool × Nat × Nat} {m : Nat → Nat → Int32} {k : Int32} {x : Int32} (hC : CG m 1) : zF σ 3 1631 [.ref 0, .int k, .int x] (zS1, m, yy) (xo (e_output m k x)) (zS1, m, (xy yy (e_output m k x))) := by
  intro d hd
  obtain ⟨d, rfl⟩ : ∃ k, d = k + 1 := ⟨d - 1, by omega⟩
  show zEv σ (d + 1) 1631 0 [some (.ref 0), some (.int k), some (.int x), none] [] _ _ _
  refine zeP rfl rfl ?_
  cases h1 : tOK x with
  | false =>
    exact zeThX rfl rfl rfl rfl rfl rfl (xn_1640 (m := m) (x := x) h1) (by omega) rfl rfl (by simp only [e_output, h1, cond_true, cond_false] <;> rfl) (by simp only [e_output, h1, cond_true, cond_false] <;> rfl)
  | true =>
    have c1 := xk_1640 (x := x) h1
    refine zeCF rfl rfl rfl rfl rfl rfl (xo_1640 (m := m) (x := x) h1) (by omega) ?_
    dsimp only [Option.toList, List.cons_append, List.nil_append]
    refine zeB1 rfl rfl (fun h2 => ?_) (fun h2 => ?_)
    · refine zeKn (c := 0) rfl rfl rfl ?_
      refine zeP rfl rfl ?_
      refine zeP rfl rfl ?_
      refine zeB1 rfl rfl (fun h3 => ?_) (fun h3 => ?_)
      · refine zeK (v := -1) rfl rfl rfl ?_
        exact zeRe rfl rfl rfl rfl (by simp only [e_output, h1, h2, h3, cond_true, cond_false] <;> rfl) (by simp only [e_output, h1, h2, h3, cond_true, cond_false] <;> rfl)
      · refine zeP rfl rfl ?_
        refine zeP rfl rfl ?_
        refine zeGR rfl rfl zS00 rfl rfl ?_
        refine zeGI rfl rfl (shM bb1) rfl rfl ?_
        refine zeB2 rfl rfl (fun h4 => ?_) (fun h4 => ?_)
        · refine zeK (v := -1) rfl rfl rfl ?_
          exact zeRe rfl rfl rfl rfl (by simp only [e_output, h1, h2, h3, h4, cond_true, cond_false] <;> rfl) (by simp only [e_output, h1, h2, h3, h4, cond_true, cond_false] <;> rfl)
        · refine zeP rfl rfl ?_
          refine zeKn (c := 20) rfl rfl rfl ?_
          refine zeB2 rfl rfl (fun h5 => ?_) (fun h5 => ?_)
          · have ck : k = Int32.ofNat k.toNatClampNeg ∧ k.toNatClampNeg < 20 := (i4_of (by omega) (by assumption) (by assumption))
            refine zeP rfl rfl ?_
            refine zeT1 rfl rfl (show zc1 .eq (Int32.ofNat 0) = true by decide) ?_
            refine zeP rfl rfl ?_
            refine zeGR rfl rfl zS00 rfl rfl ?_
            refine zeGR rfl rfl (shM bb1) rfl rfl ?_
            refine zeKn (c := k.toNatClampNeg) rfl rfl ck.1 ?_
            refine zeAL (k := (k.toNatClampNeg)) rfl rfl (shOS bb1) rfl (by omega) ?_
            exact zeRe rfl rfl rfl rfl (by simp only [e_output, h1, h2, h3, h4, h5, cond_true, cond_false] <;> rfl) (by simp only [e_output, h1, h2, h3, h4, h5, cond_true, cond_false] <;> rfl)
          · refine zeK (v := -1) rfl rfl rfl ?_
            exact zeRe rfl rfl rfl rfl (by simp only [e_output, h1, h2, h3, h4, h5, cond_true, cond_false] <;> rfl) (by simp only [e_output, h1, h2, h3, h4, h5, cond_true, cond_false] <;> rfl)
    · refine zeKn (c := 1) rfl rfl rfl ?_
      refine zeP rfl rfl ?_
      refine zeP rfl rfl ?_
      refine zeP rfl rfl ?_
      refine zeB1 rfl rfl (fun h6 => ?_) (fun h6 => ?_)
      · refine zeK (v := -1) rfl rfl rfl ?_
        exact zeRe rfl rfl rfl rfl (by simp only [e_output, h1, h2, h6, cond_true, cond_false] <;> rfl) (by simp only [e_output, h1, h2, h6, cond_true, cond_false] <;> rfl)
      · refine zeP rfl rfl ?_
        refine zeP rfl rfl ?_
        refine zeGR rfl rfl zS00 rfl rfl ?_
        refine zeGI rfl rfl (shM bb1) rfl rfl ?_
        refine zeB2 rfl rfl (fun h7 => ?_) (fun h7 => ?_)
        · refine zeK (v := -1) rfl rfl rfl ?_
          exact zeRe rfl rfl rfl rfl (by simp only [e_output, h1, h2, h6, h7, cond_true, cond_false] <;> rfl) (by simp only [e_output, h1, h2, h6, h7, cond_true, cond_false] <;> rfl)
        · refine zeP rfl rfl ?_
          refine zeKn (c := 20) rfl rfl rfl ?_
          refine zeB2 rfl rfl (fun h8 => ?_) (fun h8 => ?_)
          · have ck : k = Int32.ofNat k.toNatClampNeg ∧ k.toNatClampNeg < 20 := (i4_of (by omega) (by assumption) (by assumption))
            refine zeP rfl rfl ?_
            refine zeF1 rfl rfl (show zc1 .eq (Int32.ofNat 1) = false by decide) ?_
            refine zeP rfl rfl ?_
            refine zeGR rfl rfl zS00 rfl rfl ?_
            refine zeGR rfl rfl (shM bb1) rfl rfl ?_
            refine zeKn (c := k.toNatClampNeg) rfl rfl ck.1 ?_
            refine zeAL (k := (k.toNatClampNeg)) rfl rfl (shOT bb1) rfl (by omega) ?_
            refine zeP rfl rfl ?_
            exact zeRe rfl rfl rfl rfl (by simp only [e_output, h1, h2, h6, h7, h8, cond_true, cond_false] <;> rfl) (by simp only [e_output, h1, h2, h6, h7, h8, cond_true, cond_false] <;> rfl)
          · refine zeK (v := -1) rfl rfl rfl ?_
            exact zeRe rfl rfl rfl rfl (by simp only [e_output, h1, h2, h6, h7, h8, cond_true, cond_false] <;> rfl) (by simp only [e_output, h1, h2, h6, h7, h8, cond_true, cond_false] <;> rfl)
def e_log (m : Nat → Nat → Int32) (k : Int32) (x : Int32) : (Int32 ⊕ Nat) := (bif zc1 .lt x then (.inr 1) else (bif zc2 .lt x (Int32.ofNat 4) then (.inl ((x_logCell m 1 k x))) else (.inr 1)))
theorem ec_log {σ : Nat → Nat × (Nat → Int32)} {yy : (Nat → Nat → Int64) × Bool × Nat × Nat} {m : Nat → Nat → Int32} {k : Int32} {x : Int32} : zF σ 2 1632 [.ref 0, .int k, .int x] (zS1, m, yy) (xo (e_log m k x)) (zS1, m, (xy yy (e_log m k x))) := by
  intro d hd
  obtain ⟨d, rfl⟩ : ∃ k, d = k + 1 := ⟨d - 1, by omega⟩
  show zEv σ (d + 1) 1632 0 [some (.ref 0), some (.int k), some (.int x)] [] _ _ _
  refine zeP rfl rfl ?_
  refine zeB1 rfl rfl (fun h1 => ?_) (fun h1 => ?_)
  · exact zeThr rfl rfl rfl rfl rfl rfl (by simp only [e_log, h1, cond_true, cond_false] <;> rfl) (by simp only [e_log, h1, cond_true, cond_false] <;> rfl)
  · refine zeP rfl rfl ?_
    refine zeKn (c := 4) rfl rfl rfl ?_
    refine zeB2 rfl rfl (fun h2 => ?_) (fun h2 => ?_)
    · refine zeP rfl rfl ?_
      refine zeGR rfl rfl zS00 rfl rfl ?_
      refine zeGR rfl rfl (shM bb1) rfl rfl ?_
      refine zeP rfl rfl ?_
      refine zeP rfl rfl ?_
      refine zeCV rfl rfl rfl rfl (shLG bb1) rfl (xc_logCell (m := m) (b := 1) (k := k) (x := x) bb1) (by omega) ?_
      dsimp only [Option.toList, List.cons_append, List.nil_append]
      exact zeRe rfl rfl rfl rfl (by simp only [e_log, h1, h2, cond_true, cond_false] <;> rfl) (by simp only [e_log, h1, h2, cond_true, cond_false] <;> rfl)
    · exact zeThr rfl rfl rfl rfl rfl rfl (by simp only [e_log, h1, h2, cond_true, cond_false] <;> rfl) (by simp only [e_log, h1, h2, cond_true, cond_false] <;> rfl)
def e_count (m : Nat → Nat → Int32) (x : Int32) : Int32 := (bif decide (x = Int32.ofNat 0) then (m 1 5) else (bif decide (x = Int32.ofNat 1) then (m 1 6) else (bif decide (x = Int32.ofNat 2) then (m 1 7) else (bif decide (x = Int32.ofNat 3) then (x_doneBits m 1) else (bif decide (x = Int32.ofNat 4) then (x_guessingBits m 1) else (bif decide (x = Int32.ofNat 5) then (x_allKept m 1) else (bif decide (x = Int32.ofNat 6) then (x_lockBits m 1) else (bif decide (x = Int32.ofNat 7) then (m 1 12) else (bif decide (x = Int32.ofNat 8) then (m ((1 + 40)) 1) else (bif decide (x = Int32.ofNat 9) then (m 1 8) else (-1)))))))))))
theorem ec_count {σ : Nat → Nat × (Nat → Int32)} {yy : (Nat → Nat → Int64) × Bool × Nat × Nat} {m : Nat → Nat → Int32} {x : Int32} (hC : CG m 1) : zF σ 4 1637 [.ref 0, .int x] (zS1, m, yy) (.inl (some (.int (e_count m x)))) (zS1, m, yy) := by
  intro d hd
  obtain ⟨d, rfl⟩ : ∃ k, d = k + 1 := ⟨d - 1, by omega⟩
  show zEv σ (d + 1) 1637 0 [some (.ref 0), some (.int x)] [] _ _ _
  refine zeP rfl rfl ?_
  cases h1 : decide (x = Int32.ofNat 0) with
  | true =>
    refine zeSw (K := 0) rfl (of_decide_eq_true h1) rfl ?_
    refine zeP rfl rfl ?_
    refine zeGR rfl rfl zS00 rfl rfl ?_
    refine zeGI rfl rfl (shM bb1) rfl rfl ?_
    exact zeRe rfl rfl rfl rfl (by simp only [e_count, h1, cond_true, cond_false] <;> rfl) (by simp only [e_count, h1, cond_true, cond_false] <;> rfl)
  | false =>
    cases h2 : decide (x = Int32.ofNat 1) with
    | true =>
      refine zeSw (K := 1) rfl (of_decide_eq_true h2) rfl ?_
      refine zeP rfl rfl ?_
      refine zeGR rfl rfl zS00 rfl rfl ?_
      refine zeGI rfl rfl (shM bb1) rfl rfl ?_
      exact zeRe rfl rfl rfl rfl (by simp only [e_count, h1, h2, cond_true, cond_false] <;> rfl) (by simp only [e_count, h1, h2, cond_true, cond_false] <;> rfl)
    | false =>
      cases h3 : decide (x = Int32.ofNat 2) with
      | true =>
        refine zeSw (K := 2) rfl (of_decide_eq_true h3) rfl ?_
        refine zeP rfl rfl ?_
        refine zeGR rfl rfl zS00 rfl rfl ?_
        refine zeGI rfl rfl (shM bb1) rfl rfl ?_
        exact zeRe rfl rfl rfl rfl (by simp only [e_count, h1, h2, h3, cond_true, cond_false] <;> rfl) (by simp only [e_count, h1, h2, h3, cond_true, cond_false] <;> rfl)
      | false =>
        cases h4 : decide (x = Int32.ofNat 3) with
        | true =>
          refine zeSw (K := 3) rfl (of_decide_eq_true h4) rfl ?_
          refine zeP rfl rfl ?_
          refine zeGR rfl rfl zS00 rfl rfl ?_
          refine zeCV rfl rfl rfl rfl (shM bb1) rfl (xc_doneBits (m := m) (b := 1) bb1 hC) (by omega) ?_
          dsimp only [Option.toList, List.cons_append, List.nil_append]
          exact zeRe rfl rfl rfl rfl (by simp only [e_count, h1, h2, h3, h4, cond_true, cond_false] <;> rfl) (by simp only [e_count, h1, h2, h3, h4, cond_true, cond_false] <;> rfl)
        | false =>
          cases h5 : decide (x = Int32.ofNat 4) with
          | true =>
            refine zeSw (K := 4) rfl (of_decide_eq_true h5) rfl ?_
            refine zeP rfl rfl ?_
            refine zeGR rfl rfl zS00 rfl rfl ?_
            refine zeCV rfl rfl rfl rfl (shM bb1) rfl (xc_guessingBits (m := m) (b := 1) bb1 hC) (by omega) ?_
            dsimp only [Option.toList, List.cons_append, List.nil_append]
            exact zeRe rfl rfl rfl rfl (by simp only [e_count, h1, h2, h3, h4, h5, cond_true, cond_false] <;> rfl) (by simp only [e_count, h1, h2, h3, h4, h5, cond_true, cond_false] <;> rfl)
          | false =>
            cases h6 : decide (x = Int32.ofNat 5) with
            | true =>
              refine zeSw (K := 5) rfl (of_decide_eq_true h6) rfl ?_
              refine zeP rfl rfl ?_
              refine zeGR rfl rfl zS00 rfl rfl ?_
              refine zeCV rfl rfl rfl rfl (shM bb1) rfl (xc_allKept (m := m) (b := 1) bb1 hC) (by omega) ?_
              dsimp only [Option.toList, List.cons_append, List.nil_append]
              exact zeRe rfl rfl rfl rfl (by simp only [e_count, h1, h2, h3, h4, h5, h6, cond_true, cond_false] <;> rfl) (by simp only [e_count, h1, h2, h3, h4, h5, h6, cond_true, cond_false] <;> rfl)
            | false =>
              cases h7 : decide (x = Int32.ofNat 6) with
              | true =>
                refine zeSw (K := 6) rfl (of_decide_eq_true h7) rfl ?_
                refine zeP rfl rfl ?_
                refine zeGR rfl rfl zS00 rfl rfl ?_
                refine zeCV rfl rfl rfl rfl (shM bb1) rfl (xc_lockBits (m := m) (b := 1) bb1 hC) (by omega) ?_
                dsimp only [Option.toList, List.cons_append, List.nil_append]
                exact zeRe rfl rfl rfl rfl (by simp only [e_count, h1, h2, h3, h4, h5, h6, h7, cond_true, cond_false] <;> rfl) (by simp only [e_count, h1, h2, h3, h4, h5, h6, h7, cond_true, cond_false] <;> rfl)
              | false =>
                cases h8 : decide (x = Int32.ofNat 7) with
                | true =>
                  refine zeSw (K := 7) rfl (of_decide_eq_true h8) rfl ?_
                  refine zeP rfl rfl ?_
                  refine zeGR rfl rfl zS00 rfl rfl ?_
                  refine zeGI rfl rfl (shM bb1) rfl rfl ?_
                  exact zeRe rfl rfl rfl rfl (by simp only [e_count, h1, h2, h3, h4, h5, h6, h7, h8, cond_true, cond_false] <;> rfl) (by simp only [e_count, h1, h2, h3, h4, h5, h6, h7, h8, cond_true, cond_false] <;> rfl)
                | false =>
                  cases h9 : decide (x = Int32.ofNat 8) with
                  | true =>
                    refine zeSw (K := 8) rfl (of_decide_eq_true h9) rfl ?_
                    refine zeP rfl rfl ?_
                    refine zeGR rfl rfl zS00 rfl rfl ?_
                    refine zeGR rfl rfl (shM bb1) rfl rfl ?_
                    refine zeGI rfl rfl (shLG bb1) rfl rfl ?_
                    exact zeRe rfl rfl rfl rfl (by simp only [e_count, h1, h2, h3, h4, h5, h6, h7, h8, h9, cond_true, cond_false] <;> rfl) (by simp only [e_count, h1, h2, h3, h4, h5, h6, h7, h8, h9, cond_true, cond_false] <;> rfl)
                  | false =>
                    cases h10 : decide (x = Int32.ofNat 9) with
                    | true =>
                      refine zeSw (K := 9) rfl (of_decide_eq_true h10) rfl ?_
                      refine zeP rfl rfl ?_
                      refine zeGR rfl rfl zS00 rfl rfl ?_
                      refine zeGI rfl rfl (shM bb1) rfl rfl ?_
                      exact zeRe rfl rfl rfl rfl (by simp only [e_count, h1, h2, h3, h4, h5, h6, h7, h8, h9, h10, cond_true, cond_false] <;> rfl) (by simp only [e_count, h1, h2, h3, h4, h5, h6, h7, h8, h9, h10, cond_true, cond_false] <;> rfl)
                    | false =>
                      refine zeSwD rfl (zsw9 (of_decide_eq_false h1) (of_decide_eq_false h2) (of_decide_eq_false h3) (of_decide_eq_false h4) (of_decide_eq_false h5) (of_decide_eq_false h6) (of_decide_eq_false h7) (of_decide_eq_false h8) (of_decide_eq_false h9) (of_decide_eq_false h10)) rfl ?_
                      refine zeK (v := -1) rfl rfl rfl ?_
                      exact zeRe rfl rfl rfl rfl (by simp only [e_count, h1, h2, h3, h4, h5, h6, h7, h8, h9, h10, cond_true, cond_false] <;> rfl) (by simp only [e_count, h1, h2, h3, h4, h5, h6, h7, h8, h9, h10, cond_true, cond_false] <;> rfl)
def e_end (m : Nat → Nat → Int32) (n : Int32) : Int32 × (Nat → Nat → Int32) := (bif zc1 .lt n then ((Int32.ofNat 0), m) else (bif zc2 .le n (m 0 5) then ((Int32.ofNat 1), (zm2 m 0 5 n)) else ((Int32.ofNat 0), m)))
theorem ec_end {σ : Nat → Nat × (Nat → Int32)} {yy : (Nat → Nat → Int64) × Bool × Nat × Nat} {m : Nat → Nat → Int32} {n : Int32} : zF σ 1 1603 [.ref 0, .int n] (zS1, m, yy) (.inl (some (.int (e_end m n).1))) (zS1, (e_end m n).2, yy) := by
  intro d hd
  obtain ⟨d, rfl⟩ : ∃ k, d = k + 1 := ⟨d - 1, by omega⟩
  show zEv σ (d + 1) 1603 0 [some (.ref 0), some (.int n)] [] _ _ _
  refine zeP rfl rfl ?_
  refine zeB1 rfl rfl (fun h1 => ?_) (fun h1 => ?_)
  · refine zeKn (c := 0) rfl rfl rfl ?_
    exact zeRe rfl rfl rfl rfl (by simp only [e_end, h1, cond_true, cond_false] <;> rfl) (by simp only [e_end, h1, cond_true, cond_false] <;> rfl)
  · refine zeP rfl rfl ?_
    refine zeP rfl rfl ?_
    refine zeGI rfl rfl zS00 rfl rfl ?_
    refine zeB2 rfl rfl (fun h2 => ?_) (fun h2 => ?_)
    · refine zeP rfl rfl ?_
      refine zeP rfl rfl ?_
      refine zePI rfl rfl zS00 rfl ?_
      refine zeKn (c := 1) rfl rfl rfl ?_
      exact zeRe rfl rfl rfl rfl (by simp only [e_end, h1, h2, cond_true, cond_false] <;> rfl) (by simp only [e_end, h1, h2, cond_true, cond_false] <;> rfl)
    · refine zeKn (c := 0) rfl rfl rfl ?_
      exact zeRe rfl rfl rfl rfl (by simp only [e_end, h1, h2, cond_true, cond_false] <;> rfl) (by simp only [e_end, h1, h2, cond_true, cond_false] <;> rfl)
def e_seed (m : Nat → Nat → Int32) (n : Int32) : Int32 × (Nat → Nat → Int32) := ((m 1 9), (zm2 m 1 9 n))
theorem ec_seed {σ : Nat → Nat × (Nat → Int32)} {yy : (Nat → Nat → Int64) × Bool × Nat × Nat} {m : Nat → Nat → Int32} {n : Int32} : zF σ 1 1621 [.ref 0, .int n] (zS1, m, yy) (.inl (some (.int (e_seed m n).1))) (zS1, (e_seed m n).2, yy) := by
  intro d hd
  obtain ⟨d, rfl⟩ : ∃ k, d = k + 1 := ⟨d - 1, by omega⟩
  show zEv σ (d + 1) 1621 0 [some (.ref 0), some (.int n), none] [] _ _ _
  refine zeP rfl rfl ?_
  refine zeGR rfl rfl zS00 rfl rfl ?_
  refine zeGI rfl rfl (shM bb1) rfl rfl ?_
  refine zeP rfl rfl ?_
  refine zeP rfl rfl ?_
  refine zeGR rfl rfl zS00 rfl rfl ?_
  refine zeP rfl rfl ?_
  refine zePI rfl rfl (shM bb1) rfl ?_
  refine zeP rfl rfl ?_
  exact zeRe rfl rfl rfl rfl (by rfl) (by rfl)
theorem i18_of {x : Int32} (h1 : zc2 .lt x (Int32.ofNat 1) = false) (h2 : zc2 .le x (Int32.ofNat 8) = true) : x = Int32.ofNat x.toNatClampNeg ∧ x.toNatClampNeg ≤ 8 := by
  have a := of_decide_eq_false h1
  have c := of_decide_eq_true h2
  rw [Int32.lt_iff_toInt_lt, zoN (by omega)] at a
  rw [Int32.le_iff_toInt_le, zoN (by omega)] at c
  obtain ⟨g1, g2⟩ := nat_ge (x := x) (by omega)
  exact ⟨g1, by omega⟩
def e_tune (m : Nat → Nat → Int32) (x : Int32) (n : Int32) : (Int32 ⊕ Nat) × (Nat → Nat → Int32) := (bif zc2 .lt x (Int32.ofNat 1) then ((.inr 1), m) else (bif zc2 .le x (Int32.ofNat 8) then (bif zc2 .lt n ((zla 0).getD ((x.toNatClampNeg)) 0) then ((.inr 2), m) else (bif zc2 .le n ((zla 1).getD ((x.toNatClampNeg)) 0) then ((.inl ((m ((1 + 3)) ((x.toNatClampNeg))))), (zm2 m ((1 + 3)) ((x.toNatClampNeg)) n)) else ((.inr 2), m))) else ((.inr 1), m)))
theorem ec_tune {σ : Nat → Nat × (Nat → Int32)} {yy : (Nat → Nat → Int64) × Bool × Nat × Nat} {m : Nat → Nat → Int32} {x : Int32} {n : Int32} (hs : ZS σ) : zF σ 1 1620 [.ref 0, .int x, .int n] (zS1, m, yy) (xo (e_tune m x n).1) (zS1, (e_tune m x n).2, (xy yy (e_tune m x n).1)) := by
  intro d hd
  obtain ⟨d, rfl⟩ : ∃ k, d = k + 1 := ⟨d - 1, by omega⟩
  show zEv σ (d + 1) 1620 0 [some (.ref 0), some (.int x), some (.int n), none] [] _ _ _
  refine zeP rfl rfl ?_
  refine zeKn (c := 1) rfl rfl rfl ?_
  refine zeB2 rfl rfl (fun h1 => ?_) (fun h1 => ?_)
  · exact zeThr rfl rfl rfl rfl rfl rfl (by simp only [e_tune, h1, cond_true, cond_false] <;> rfl) (by simp only [e_tune, h1, cond_true, cond_false] <;> rfl)
  · refine zeP rfl rfl ?_
    refine zeKn (c := 8) rfl rfl rfl ?_
    refine zeB2 rfl rfl (fun h2 => ?_) (fun h2 => ?_)
    · have cx : x = Int32.ofNat x.toNatClampNeg ∧ x.toNatClampNeg ≤ 8 := (i18_of (by assumption) (by assumption))
      refine zeP rfl rfl ?_
      refine zeS rfl rfl rfl ?_
      refine zeKn (c := x.toNatClampNeg) rfl rfl cx.1 ?_
      refine zeSt (n := 0) (k := (x.toNatClampNeg)) hs (by omega) rfl (by show _ < 9; omega) (by decide) ?_
      refine zeB2 rfl rfl (fun h3 => ?_) (fun h3 => ?_)
      · exact zeThr rfl rfl rfl rfl rfl rfl (by simp only [e_tune, h1, h2, h3, cond_true, cond_false] <;> rfl) (by simp only [e_tune, h1, h2, h3, cond_true, cond_false] <;> rfl)
      · refine zeP rfl rfl ?_
        refine zeS rfl rfl rfl ?_
        refine zeKn (c := x.toNatClampNeg) rfl rfl cx.1 ?_
        refine zeSt (n := 1) (k := (x.toNatClampNeg)) hs (by omega) rfl (by show _ < 9; omega) (by decide) ?_
        refine zeB2 rfl rfl (fun h4 => ?_) (fun h4 => ?_)
        · refine zeP rfl rfl ?_
          refine zeGR rfl rfl zS00 rfl rfl ?_
          refine zeGR rfl rfl (shM bb1) rfl rfl ?_
          refine zeKn (c := x.toNatClampNeg) rfl rfl cx.1 ?_
          refine zeAL (k := (x.toNatClampNeg)) rfl rfl (shE bb1) rfl (by omega) ?_
          refine zeP rfl rfl ?_
          refine zeP rfl rfl ?_
          refine zeGR rfl rfl zS00 rfl rfl ?_
          refine zeGR rfl rfl (shM bb1) rfl rfl ?_
          refine zeKn (c := x.toNatClampNeg) rfl rfl cx.1 ?_
          refine zeP rfl rfl ?_
          refine zeAS (k := (x.toNatClampNeg)) rfl (shE bb1) rfl (by omega) ?_
          refine zeP rfl rfl ?_
          exact zeRe rfl rfl rfl rfl (by simp only [e_tune, h1, h2, h3, h4, cond_true, cond_false] <;> rfl) (by simp only [e_tune, h1, h2, h3, h4, cond_true, cond_false] <;> rfl)
        · exact zeThr rfl rfl rfl rfl rfl rfl (by simp only [e_tune, h1, h2, h3, h4, cond_true, cond_false] <;> rfl) (by simp only [e_tune, h1, h2, h3, h4, cond_true, cond_false] <;> rfl)
    · exact zeThr rfl rfl rfl rfl rfl rfl (by simp only [e_tune, h1, h2, cond_true, cond_false] <;> rfl) (by simp only [e_tune, h1, h2, cond_true, cond_false] <;> rfl)
