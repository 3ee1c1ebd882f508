/-- floorMod by 60 -/
noncomputable def zfN (x : Int32) : Nat := (zfm x (Int32.ofNat 60)).toNatClampNeg
theorem zrem60 (x : Int32) : (x - x / Int32.ofNat 60 * Int32.ofNat 60).toInt = x.toInt.tmod 60 := by
  have h1 : (x / Int32.ofNat 60).toInt = x.toInt.tdiv 60 := by
    rw [Int32.toInt_div_of_ne_right _ _ (by decide)]
    rfl
  have hx := x.le_toInt
  have hx2 := x.toInt_lt
  have h60 : (Int32.ofNat 60).toInt = 60 := by decide
  rw [Int32.toInt_sub, Int32.toInt_mul, h1, h60]
  have e : x.toInt.tmod 60 = x.toInt - 60 * x.toInt.tdiv 60 := Int.tmod_def _ _
  have b2 := Int.tmod_lt_of_pos x.toInt (show (0 : Int) < 60 by omega)
  have b3 := Int.lt_tmod_of_pos x.toInt (show (0 : Int) < 60 by omega)
  have b4 : 0 ≤ x.toInt → 0 ≤ x.toInt.tmod 60 := fun q => Int.tmod_nonneg 60 q
  have b5 : x.toInt ≤ 0 → x.toInt.tmod 60 ≤ 0 := fun q => by
    have h := Int.tmod_nonneg 60 (show 0 ≤ -x.toInt by omega)
    rw [Int.neg_tmod] at h
    omega
  generalize x.toInt.tmod 60 = R at *
  generalize x.toInt.tdiv 60 = Q at *
  generalize x.toInt = X at *
  have c1 : Int.bmod (Q * 60) (2 ^ 32) = Q * 60 := Int.bmod_eq_of_le (by omega) (by omega)
  rw [c1]
  have c2 : Int.bmod (X - Q * 60) (2 ^ 32) = X - Q * 60 := Int.bmod_eq_of_le (by omega) (by omega)
  rw [c2]
  omega
theorem zfm60 (x : Int32) : zfm x (Int32.ofNat 60) = Int32.ofNat (zfN x) ∧ zfN x < 60 := by
  have hr := zrem60 x
  have hs : (0 ≤ x ^^^ Int32.ofNat 60) ↔ 0 ≤ x := by
    rw [Int32.le_iff_toInt_le, Int32.le_iff_toInt_le, Int32.toInt_zero]
    have e1 : (x ^^^ Int32.ofNat 60).toInt = (x.toBitVec ^^^ (Int32.ofNat 60).toBitVec).toInt := rfl
    have e2 : x.toInt = x.toBitVec.toInt := rfl
    have m1 := BitVec.msb_eq_toInt (x := x.toBitVec ^^^ (Int32.ofNat 60).toBitVec)
    have m2 := BitVec.msb_eq_toInt (x := x.toBitVec)
    rw [BitVec.msb_xor, show (Int32.ofNat 60).toBitVec.msb = false by decide, Bool.xor_false, m2] at m1
    rw [e1, e2]
    have := decide_eq_decide.mp m1
    omega
  have key : ∃ n : Nat, n < 60 ∧ (zfm x (Int32.ofNat 60)).toInt = n := by
    unfold zfm
    by_cases hx : 0 ≤ x
    · rw [if_neg (fun q => q.1 (hs.mpr hx)), hr]
      rw [Int32.le_iff_toInt_le, Int32.toInt_zero] at hx
      have b2 := Int.tmod_lt_of_pos x.toInt (show (0 : Int) < 60 by omega)
      have b4 := Int.tmod_nonneg 60 hx
      exact ⟨(x.toInt.tmod 60).toNat, by omega, by omega⟩
    · have hx2 : x.toInt < 0 := by
        rw [Int32.le_iff_toInt_le, Int32.toInt_zero] at hx
        omega
      by_cases h0 : x - x / Int32.ofNat 60 * Int32.ofNat 60 = 0
      · rw [if_neg (fun q => q.2 h0), h0]
        exact ⟨0, by omega, rfl⟩
      · rw [if_pos ⟨fun q => hx (hs.mp q), h0⟩, Int32.toInt_add, hr, show (Int32.ofNat 60).toInt = 60 by decide]
        have hn : x.toInt.tmod 60 ≠ 0 := fun e => h0 (Int32.toInt_inj.mp (by rw [hr, e]; rfl))
        have b3 := Int.lt_tmod_of_pos x.toInt (show (0 : Int) < 60 by omega)
        have b5 := Int.tmod_nonneg 60 (show 0 ≤ -x.toInt by omega)
        rw [Int.neg_tmod] at b5
        have c1 : Int.bmod (x.toInt.tmod 60 + 60) (2 ^ 32) = x.toInt.tmod 60 + 60 := Int.bmod_eq_of_le (by omega) (by omega)
        rw [c1]
        exact ⟨(x.toInt.tmod 60 + 60).toNat, by omega, by omega⟩
  obtain ⟨n, h1, h2⟩ := key
  have e : zfm x (Int32.ofNat 60) = Int32.ofNat n := Int32.toInt_inj.mp (by rw [h2, zoN (by omega)])
  unfold zfN
  rw [e, nv_on (by omega)]
  exact ⟨rfl, h1⟩
theorem i4_of {x : Int32} {n : Nat} (hn0 : n < 2147483648) (h1 : zc1 .lt x = false) (h2 : zc2 .lt x (Int32.ofNat n) = true) : x = Int32.ofNat x.toNatClampNeg ∧ x.toNatClampNeg < n := by
  have hn : n < 2147483648 := hn0
  · have a := of_decide_eq_false h1
    have c := of_decide_eq_true h2
    rw [Int32.lt_iff_toInt_lt, Int32.toInt_zero] at a
    rw [Int32.lt_iff_toInt_lt, zoN hn] at c
    have h3 : x.toNatClampNeg = x.toInt.toNat := rfl
    refine ⟨?_, by omega⟩
    apply Int32.toInt_inj.mp
    rw [zoN (by omega), h3]
    omega
noncomputable def x_logCell (m : Nat → Nat → Int32) (b : Nat) (k : Int32) (x : Int32) : Int32 := (bif zc1 .lt k then (-1) else (bif zc2 .ge k (m ((b + 40)) 1) then (-1) else (bif zc1 .lt x then (-1) else (bif zc2 .lt x (Int32.ofNat 4) then (m ((b + 41)) ((((zfN ((((m ((b + 40)) 2) - (Int32.ofNat 1)) - k))) * 4) + (x.toNatClampNeg)))) else (-1)))))
theorem xp_logCell {σ : Nat → Nat × (Nat → Int32)} {yy : (Nat → Nat → Int64) × Bool × Nat × Nat} {m : Nat → Nat → Int32} {b : Nat} {k : Int32} {x : Int32} {d : Nat} (hd : 1 ≤ d + 1) (hb : BB b) : zEv σ (d + 1) 403 0 [some (.ref (b + 40)), some (.int k), some (.int x)] [] (zS1, m, yy) (.inl (some (.int (x_logCell m b k x)))) (zS1, m, yy) := by
  refine zeP rfl rfl ?_
  refine zeB1 rfl rfl (fun h1 => ?_) (fun h1 => ?_)
  · refine zeK (v := -1) rfl rfl rfl ?_
    exact zeRe rfl rfl rfl rfl (by simp only [x_logCell, h1, cond_true, cond_false] <;> rfl) (by simp only [x_logCell, h1, cond_true, cond_false] <;> rfl)
  · refine zeP rfl rfl ?_
    refine zeP rfl rfl ?_
    refine zeGI rfl rfl (shLG hb) rfl rfl ?_
    refine zeB2 rfl rfl (fun h2 => ?_) (fun h2 => ?_)
    · refine zeK (v := -1) rfl rfl rfl ?_
      exact zeRe rfl rfl rfl rfl (by simp only [x_logCell, h1, h2, cond_true, cond_false] <;> rfl) (by simp only [x_logCell, h1, h2, cond_true, cond_false] <;> rfl)
    · refine zeP rfl rfl ?_
      refine zeB1 rfl rfl (fun h3 => ?_) (fun h3 => ?_)
      · refine zeK (v := -1) rfl rfl rfl ?_
        exact zeRe rfl rfl rfl rfl (by simp only [x_logCell, h1, h2, h3, cond_true, cond_false] <;> rfl) (by simp only [x_logCell, h1, h2, h3, cond_true, cond_false] <;> rfl)
      · refine zeP rfl rfl ?_
        refine zeKn (c := 4) rfl rfl rfl ?_
        refine zeB2 rfl rfl (fun h4 => ?_) (fun h4 => ?_)
        · have cx : x = Int32.ofNat x.toNatClampNeg ∧ x.toNatClampNeg < 4 := (i4_of (by omega) (by assumption) (by assumption))
          refine zeP rfl rfl ?_
          refine zeGR rfl rfl (shLG hb) rfl rfl ?_
          refine zeP rfl rfl ?_
          refine zeGI rfl rfl (shLG hb) rfl rfl ?_
          refine zeKn (c := 1) rfl rfl rfl ?_
          refine zeP rfl rfl ?_
          refine zeP rfl rfl ?_
          refine zeP rfl rfl ?_
          refine zeKn (c := 60) rfl rfl rfl ?_
          refine zeM rfl rfl rfl rfl rfl rfl rfl ?_
          rw [(zfm60 _).1]
          refine zeKn (c := 4) rfl rfl rfl ?_
          refine zeMul rfl ?_
          refine zeKn (c := x.toNatClampNeg) rfl rfl cx.1 ?_
          refine zeAdd rfl ?_
          refine zeAL (k := (((zfN ((((m ((b + 40)) 2) - (Int32.ofNat 1)) - k))) * 4) + (x.toNatClampNeg))) rfl (bb1000 hb (by omega)) (shC hb) rfl (by have := (zfm60 (m (b + 40) 2 - Int32.ofNat 1 - k)).2; have := cx.2; omega) ?_
          exact zeRe rfl rfl rfl rfl (by simp only [x_logCell, h1, h2, h3, h4, cond_true, cond_false] <;> rfl) (by simp only [x_logCell, h1, h2, h3, h4, cond_true, cond_false] <;> rfl)
        · refine zeK (v := -1) rfl rfl rfl ?_
          exact zeRe rfl rfl rfl rfl (by simp only [x_logCell, h1, h2, h3, h4, cond_true, cond_false] <;> rfl) (by simp only [x_logCell, h1, h2, h3, h4, cond_true, cond_false] <;> rfl)
theorem xc_logCell {σ : Nat → Nat × (Nat → Int32)} {yy : (Nat → Nat → Int64) × Bool × Nat × Nat} {m : Nat → Nat → Int32} {b : Nat} {k : Int32} {x : Int32} (hb : BB b) : zF σ 1 403 [.ref (b + 40), .int k, .int x] (zS1, m, yy) (.inl (some (.int (x_logCell m b k x)))) (zS1, m, yy) := by
  intro d hd
  obtain ⟨d, rfl⟩ : ∃ k, d = k + 1 := ⟨d - 1, by omega⟩
  exact xp_logCell hd hb
