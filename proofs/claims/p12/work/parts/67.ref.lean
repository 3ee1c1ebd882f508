/-! what is asked of the reference -/
theorem throwsIf_1 (m : Nat → Nat → Int32) (b : Int32) (c : Nat) : (q_throwsIf m b c).1 = b := by
  unfold q_throwsIf
  exact cndi (fun q : Int32 × (Nat → Nat → Int32) => q.1 = b) rfl rfl
theorem natOf {v : Int32} (h : 0 ≤ v.toInt) : v = Int32.ofNat v.toNatClampNeg ∧ (v.toNatClampNeg : Int) = v.toInt := by
  have h1 : v.toNatClampNeg = v.toInt.toNat := rfl
  have h2 := Int32.toInt_lt v
  have h3 : (v.toNatClampNeg : Int) = v.toInt := by rw [h1]; exact Int.toNat_of_nonneg h
  refine ⟨?_, h3⟩
  apply Int32.toInt_inj.mp
  rw [zoN (by first | exact zq_adn (by decide) | exact zq_adr (zq_adn (by decide)) | omega), h3]
theorem in_1 {v : Int32} {a b : Nat} (ha : a < 2147483648) (hb : b < 2147483648) (h : zc1 .ne (q_in v (Int32.ofNat a) (Int32.ofNat b)) = true) : v = Int32.ofNat v.toNatClampNeg ∧ (a ≤ v.toNatClampNeg ∧ v.toNatClampNeg ≤ b) := by
  unfold q_in at h
  cases h1 : zc2 .lt v (Int32.ofNat a) with
  | true => rw [h1, cond_true] at h; exact absurd h (by decide)
  | false =>
    rw [h1, cond_false] at h
    cases h2 : zc2 .gt v (Int32.ofNat b) with
    | true => rw [h2, cond_true] at h; exact absurd h (by decide)
    | false =>
      have e1 : ¬ v < Int32.ofNat a := of_decide_eq_false h1
      have e2 : ¬ Int32.ofNat b < v := of_decide_eq_false h2
      rw [Int32.lt_iff_toInt_lt, zoN ha] at e1
      rw [Int32.lt_iff_toInt_lt, zoN hb] at e2
      obtain ⟨e3, e4⟩ := natOf (v := v) (by first | exact zq_adn (by decide) | exact zq_adr (zq_adn (by decide)) | omega)
      exact ⟨e3, by omega, by omega⟩
/-- within the threads (none at all: nothing is) -/
theorem in_N {v : Int32} {W : Nat → Int32} (hN : W 9 = Int32.ofNat (nv W 9)) (hN4 : nv W 9 ≤ 4) (h : zc1 .ne (q_in v (Int32.ofNat 0) (q_threads W - Int32.ofNat 1)) = true) : v = Int32.ofNat v.toNatClampNeg ∧ v.toNatClampNeg < nv W 9 := by
  have h9 : q_threads W = Int32.ofNat (nv W 9) := hN
  rw [h9] at h
  by_cases h0 : nv W 9 = 0
  · rw [h0] at h
    unfold q_in at h
    cases h1 : zc2 .lt v (Int32.ofNat 0) with
    | true => rw [h1, cond_true] at h; exact absurd h (by decide)
    | false =>
      rw [h1, cond_false] at h
      have e1 : ¬ v < Int32.ofNat 0 := of_decide_eq_false h1
      have e2 : zc2 .gt v (Int32.ofNat 0 - Int32.ofNat 1) = true := by
        apply decide_eq_true
        rw [Int32.lt_iff_toInt_lt]
        rw [Int32.lt_iff_toInt_lt, zoN (by first | exact zq_adn (by decide) | exact zq_adr (zq_adn (by decide)) | omega)] at e1
        have e3 : (Int32.ofNat 0 - Int32.ofNat 1).toInt = -1 := by decide
        omega
      rw [e2, cond_true] at h
      exact absurd h (by decide)
  · rw [zsubN (by first | exact zq_adn (by decide) | exact zq_adr (zq_adn (by decide)) | omega)] at h
    have h2 := in_1 (by first | exact zq_adn (by decide) | exact zq_adr (zq_adn (by decide)) | omega) (by first | exact zq_adn (by decide) | exact zq_adr (zq_adn (by decide)) | omega) h
    exact ⟨h2.1, by omega⟩
noncomputable def q_thr0 (c : Nat) : Int32 := (Int32.ofNat 0)
theorem p_thr0 {σ : Nat → Nat × (Nat → Int32)} {yy : (Nat → Nat → Int64) × Bool × Nat × Nat} {m : Nat → Nat → Int32} {W : Nat → Int32} {c : Nat} {d : Nat} (hd : 1 ≤ d + 1) : zEv σ (d + 1) 1801 0 [some (.ref 137), some (.int (Int32.ofNat 0)), some (.int (Int32.ofNat c))] [] (zS1, zrow m 138 W, yy) (.inl (some (.int (q_thr0 c)))) (zS1, zrow m 138 W, yy) := by
  refine zeP rfl rfl ?_
  refine zeT1 rfl rfl (show zc1 .eq (Int32.ofNat 0) = true by decide) ?_
  refine zeP rfl rfl ?_
  exact zeRe rfl rfl rfl rfl (by rfl) (by rfl)
theorem c_thr0 {σ : Nat → Nat × (Nat → Int32)} {yy : (Nat → Nat → Int64) × Bool × Nat × Nat} {m : Nat → Nat → Int32} {W : Nat → Int32} {c : Nat} : zF σ 1 1801 [.ref 137, .int (Int32.ofNat 0), .int (Int32.ofNat c)] (zS1, zrow m 138 W, yy) (.inl (some (.int (q_thr0 c)))) (zS1, zrow m 138 W, yy) := by
  intro d hd
  obtain ⟨d, rfl⟩ : ∃ k, d = k + 1 := ⟨d - 1, by omega⟩
  exact p_thr0 hd 
noncomputable def q_thr1 (m : Nat → Nat → Int32) (c : Nat) : Int32 × (Nat → Nat → Int32) := ((Int32.ofNat 1), (zm2 m 137 0 (Int32.ofNat c)))
theorem p_thr1 {σ : Nat → Nat × (Nat → Int32)} {yy : (Nat → Nat → Int64) × Bool × Nat × Nat} {m : Nat → Nat → Int32} {W : Nat → Int32} {c : Nat} {d : Nat} (hd : 1 ≤ d + 1) : zEv σ (d + 1) 1801 0 [some (.ref 137), some (.int (Int32.ofNat 1)), some (.int (Int32.ofNat c))] [] (zS1, zrow m 138 W, yy) (.inl (some (.int (q_thr1 m c).1))) (zS1, zrow ((q_thr1 m c).2) 138 W, yy) := by
  refine zeP rfl rfl ?_
  refine zeF1 rfl rfl (show zc1 .eq (Int32.ofNat 1) = false by decide) ?_
  refine zeP rfl rfl ?_
  refine zeP rfl rfl ?_
  refine zeFP rfl rfl rfl ?_
  refine zeP rfl rfl ?_
  exact zeRe rfl rfl rfl rfl (by rfl) (by rfl)
theorem c_thr1 {σ : Nat → Nat × (Nat → Int32)} {yy : (Nat → Nat → Int64) × Bool × Nat × Nat} {m : Nat → Nat → Int32} {W : Nat → Int32} {c : Nat} : zF σ 1 1801 [.ref 137, .int (Int32.ofNat 1), .int (Int32.ofNat c)] (zS1, zrow m 138 W, yy) (.inl (some (.int (q_thr1 m c).1))) (zS1, zrow ((q_thr1 m c).2) 138 W, yy) := by
  intro d hd
  obtain ⟨d, rfl⟩ : ∃ k, d = k + 1 := ⟨d - 1, by omega⟩
  exact p_thr1 hd 
theorem zeSw {σ : Nat → Nat × (Nat → Int32)} {d j pc pc' len K : Nat} {lv : zLv} {st : List Value} {M M' : zMem} {o : zO} {i : Instr} {x : Int32} (hf : zfe j pc = some (i, len)) (hx : x = Int32.ofNat K) (hp : zP (j / 200) i pc lv (.int (Int32.ofNat K) :: st) = some (pc', lv, st)) (k : zEv σ d j pc' lv st M o M') : zEv σ d j pc lv (.int x :: st) M o M' := by
  subst hx
  exact zeP hf hp k
noncomputable def q_noThread (m : Nat → Nat → Int32) (W : Nat → Int32) (t : Int32) : Int32 × (Nat → Nat → Int32) := (bif zc1 .ne (q_in t ((Int32.ofNat 0)) (((q_threads W) - (Int32.ofNat 1)))) then ((Int32.ofNat 0), (zm2 m 137 0 (Int32.ofNat 0))) else ((Int32.ofNat 1), (q_thr1 ((zm2 m 137 0 (Int32.ofNat 0))) 1).2))
theorem p_noThread {σ : Nat → Nat × (Nat → Int32)} {yy : (Nat → Nat → Int64) × Bool × Nat × Nat} {m : Nat → Nat → Int32} {W : Nat → Int32} {t : Int32} {d : Nat} (hd : 2 ≤ d + 1) : zEv σ (d + 1) 1863 0 [some (.ref 137), some (.int t)] [] (zS1, zrow m 138 W, yy) (.inl (some (.int (q_noThread m W t).1))) (zS1, zrow ((q_noThread m W t).2) 138 W, yy) := by
  refine zeP rfl rfl ?_
  refine zeKn (c := 0) rfl rfl rfl ?_
  refine zeFP rfl rfl rfl ?_
  refine zeP rfl rfl ?_
  refine zeP rfl rfl ?_
  refine zeKn (c := 0) rfl rfl rfl ?_
  refine zeP rfl rfl ?_
  refine zeCF rfl rfl rfl rfl rfl rfl (c_threads (m := (zm2 m 137 0 (Int32.ofNat 0))) (W := W)  ) (by first | exact zq_adn (by decide) | exact zq_adr (zq_adn (by decide)) | omega) ?_
  dsimp only [Option.toList, List.cons_append, List.nil_append]
  refine zeKn (c := 1) rfl rfl rfl ?_
  refine zeP rfl rfl ?_
  refine zeCF rfl rfl rfl rfl rfl rfl (c_in (m := (zm2 m 137 0 (Int32.ofNat 0))) (W := W) (v := t) (lo := (Int32.ofNat 0)) (hi := ((q_threads W) - (Int32.ofNat 1))) ) (by first | exact zq_adn (by decide) | exact zq_adr (zq_adn (by decide)) | omega) ?_
  dsimp only [Option.toList, List.cons_append, List.nil_append]
  refine zeB1 rfl rfl (fun h1 => ?_) (fun h1 => ?_)
  · refine zeKn (c := 0) rfl rfl rfl ?_
    refine zeKn (c := 1) rfl rfl rfl ?_
    refine zeCF rfl rfl rfl rfl rfl rfl (c_thr0 (m := (zm2 m 137 0 (Int32.ofNat 0))) (W := W) (c := 1) ) (by first | exact zq_adn (by decide) | exact zq_adr (zq_adn (by decide)) | omega) ?_
    dsimp only [Option.toList, List.cons_append, List.nil_append]
    exact zeRe rfl rfl rfl rfl (by simp only [q_noThread, h1, cond_true, cond_false] <;> rfl) (by simp only [q_noThread, h1, cond_true, cond_false] <;> rfl)
  · refine zeKn (c := 1) rfl rfl rfl ?_
    refine zeP rfl rfl ?_
    refine zeKn (c := 1) rfl rfl rfl ?_
    refine zeCF rfl rfl rfl rfl rfl rfl (c_thr1 (m := (zm2 m 137 0 (Int32.ofNat 0))) (W := W) (c := 1) ) (by first | exact zq_adn (by decide) | exact zq_adr (zq_adn (by decide)) | omega) ?_
    dsimp only [Option.toList, List.cons_append, List.nil_append]
    exact zeRe rfl rfl rfl rfl (by simp only [q_noThread, h1, cond_true, cond_false] <;> rfl) (by simp only [q_noThread, h1, cond_true, cond_false] <;> rfl)
theorem c_noThread {σ : Nat → Nat × (Nat → Int32)} {yy : (Nat → Nat → Int64) × Bool × Nat × Nat} {m : Nat → Nat → Int32} {W : Nat → Int32} {t : Int32} : zF σ 2 1863 [.ref 137, .int t] (zS1, zrow m 138 W, yy) (.inl (some (.int (q_noThread m W t).1))) (zS1, zrow ((q_noThread m W t).2) 138 W, yy) := by
  intro d hd
  obtain ⟨d, rfl⟩ : ∃ k, d = k + 1 := ⟨d - 1, by omega⟩
  exact p_noThread hd 
theorem nT_in {m : Nat → Nat → Int32} {W : Nat → Int32} {t : Int32} (h : WG W) (hc : zc1 .ne (q_noThread m W t).1 = false) : t = Int32.ofNat t.toNatClampNeg ∧ t.toNatClampNeg < nv W 9 := by
  unfold q_noThread at hc
  cases h1 : zc1 .ne (q_in t (Int32.ofNat 0) (q_threads W - Int32.ofNat 1)) with
  | true => exact in_N h.N h.N4 h1
  | false =>
    rw [h1, cond_false] at hc
    exact absurd hc (show ¬ zc1 .ne (Int32.ofNat 1) = false by decide)
