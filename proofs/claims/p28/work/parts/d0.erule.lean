/-! rules for ElidedLocks' own methods: what is thrown, what is checked -/
theorem zS00 : zS1[0]? = some (8, 0, [2, 44, 86, 0, 128, 0, 0, 129, 130, 132]) := rfl
theorem zS129 : zS1[129]? = some (7, 0, [131, 0]) := rfl
theorem zS130 : zS1[130]? = some (11, 400, []) := rfl
def yt (yy : (Nat → Nat → Int64) × Bool × Nat × Nat) : (Nat → Nat → Int64) × Bool × Nat × Nat := (yy.1, false, yy.2.2.1 + 1, yy.2.2.2 + 6)
/-- an answer, or what is thrown -/
def xo : Int32 ⊕ Nat → zO
  | .inl v => .inl (some (.int v))
  | .inr e => .inr e
def xy (yy : (Nat → Nat → Int64) × Bool × Nat × Nat) : Int32 ⊕ Nat → (Nat → Nat → Int64) × Bool × Nat × Nat
  | .inl _ => yy
  | .inr _ => yt yy
section ZTH
variable {σ : Nat → Nat × (Nat → Int32)} {d j pc : Nat} {lv : zLv} {st : List Value} {M : zMem} {o : zO} {M' : zMem}
theorem zeThr {i : Instr} {len e0 : Nat} (hf : zfe j pc = some (i, len)) (hp : zP (j / 200) i pc lv st = none) (hs : zS σ (j / 200) (zini j) i pc st M = none) (hr : zret j i st = none) (ht : zthr j pc = some e0) (hc : (Nat.ble (zsum st) 8 && znoH j) = true) (ho : o = .inr e0) (hM : M' = zthM M) : zEv σ d j pc lv st M o M' := by
  subst ho hM
  exact zeT hf hp hs hr ht hc
theorem zeThX {i : Instr} {len j' e0 h : Nat} {as rest : List Value} {M1 : zMem} (hf : zfe j pc = some (i, len)) (hp : zP (j / 200) i pc lv st = none) (hs : zS σ (j / 200) (zini j) i pc st M = none) (hr : zret j i st = none) (ht : zthr j pc = none) (hc : zcall (j / 200) i st M = some (j', as, rest)) (h1 : zF σ h j' as M (.inr e0) M1) (hh : h ≤ d) (hh2 : zhnd j pc e0 = none) (hn : znoH j = true) (ho : o = .inr e0) (hM : M' = M1) : zEv σ (d + 1) j pc lv st M o M' := by
  subst ho hM
  exact zeX hf hp hs hr ht hc (h1 d hh) hh2 hn
end ZTH
def sOK (m : Nat → Nat → Int32) (x : Int32) : Bool := !zc1 .lt x && zc2 .lt x (m 1 5)
def wOK (x : Int32) : Bool := !zc1 .lt x && zc2 .lt x (Int32.ofNat 32)
def tOK (x : Int32) : Bool := !zc1 .lt x && zc2 .le x (Int32.ofNat 1)
def kOK (x : Int32) : Bool := !zc2 .lt x (Int32.ofNat 1) && zc2 .le x (Int32.ofNat 100)
theorem nat_ge {x : Int32} (h : 0 ≤ x.toInt) : x = Int32.ofNat x.toNatClampNeg ∧ (x.toNatClampNeg : Int) = x.toInt := by
  have h3 : x.toNatClampNeg = x.toInt.toNat := rfl
  have h4 := x.toInt_lt
  refine ⟨?_, by omega⟩
  apply Int32.toInt_inj.mp
  rw [zoN (by omega), h3]
  omega
theorem xk_1638 {m : Nat → Nat → Int32} {x : Int32} (hC : CG m 1) (h : sOK m x = true) : x = Int32.ofNat x.toNatClampNeg ∧ x.toNatClampNeg < mv m 1 5 := by
  unfold sOK at h
  rw [Bool.and_eq_true, Bool.not_eq_true'] at h
  have a := of_decide_eq_false h.1
  have c := of_decide_eq_true h.2
  have h4 := hC.c4
  rw [Int32.lt_iff_toInt_lt, Int32.toInt_zero] at a
  rw [hC.c, Int32.lt_iff_toInt_lt, zoN (by omega)] at c
  obtain ⟨g1, g2⟩ := nat_ge (x := x) (by omega)
  exact ⟨g1, by omega⟩
theorem xk_1639 {x : Int32} (h : wOK x = true) : x = Int32.ofNat x.toNatClampNeg ∧ x.toNatClampNeg < 32 := by
  unfold wOK at h
  rw [Bool.and_eq_true, Bool.not_eq_true'] at h
  have a := of_decide_eq_false h.1
  have c := of_decide_eq_true h.2
  rw [Int32.lt_iff_toInt_lt, Int32.toInt_zero] at a
  rw [Int32.lt_iff_toInt_lt, zoN (by omega)] at c
  obtain ⟨g1, g2⟩ := nat_ge (x := x) (by omega)
  exact ⟨g1, by omega⟩
theorem xk_1640 {x : Int32} (h : tOK x = true) : x = Int32.ofNat x.toNatClampNeg ∧ x.toNatClampNeg ≤ 1 := by
  unfold tOK at h
  rw [Bool.and_eq_true, Bool.not_eq_true'] at h
  have a := of_decide_eq_false h.1
  have c := of_decide_eq_true h.2
  rw [Int32.lt_iff_toInt_lt, Int32.toInt_zero] at a
  rw [Int32.le_iff_toInt_le, zoN (by omega)] at c
  obtain ⟨g1, g2⟩ := nat_ge (x := x) (by omega)
  exact ⟨g1, by omega⟩
theorem xk_1641 {x : Int32} (h : kOK x = true) : x = Int32.ofNat x.toNatClampNeg ∧ x.toNatClampNeg ≤ 100 ∧ 1 ≤ x.toNatClampNeg := by
  unfold kOK at h
  rw [Bool.and_eq_true, Bool.not_eq_true'] at h
  have a := of_decide_eq_false h.1
  have c := of_decide_eq_true h.2
  rw [Int32.lt_iff_toInt_lt, zoN (by omega)] at a
  rw [Int32.le_iff_toInt_le, zoN (by omega)] at c
  obtain ⟨g1, g2⟩ := nat_ge (x := x) (by omega)
  exact ⟨g1, by omega, by omega⟩
section ZCK
variable {σ : Nat → Nat × (Nat → Int32)} {yy : (Nat → Nat → Int64) × Bool × Nat × Nat} {m : Nat → Nat → Int32} {x : Int32}
theorem xn_1638 (h : sOK m x = false) : zF σ 1 1638 [.ref 0, .int x] (zS1, m, yy) (.inr 0) (zS1, m, yt yy) := by
  intro d hd
  obtain ⟨d, rfl⟩ : ∃ k, d = k + 1 := ⟨d - 1, by omega⟩
  show zEv σ (d + 1) 1638 0 [some (.ref 0), some (.int x)] [] _ _ _
  refine zeP rfl rfl ?_
  refine zeB1 rfl rfl (fun h1 => ?_) (fun h1 => ?_)
  · exact zeThr rfl rfl rfl rfl rfl rfl rfl rfl
  · refine zeP rfl rfl ?_
    refine zeP rfl rfl ?_
    refine zeGR rfl rfl zS00 rfl rfl ?_
    refine zeGI rfl rfl (shM bb1) rfl rfl ?_
    refine zeF2 rfl rfl ?_ ?_
    · unfold sOK at h
      rw [h1, Bool.not_false, Bool.true_and] at h
      exact h
    · exact zeThr rfl rfl rfl rfl rfl rfl rfl rfl
theorem xo_1638 (h : sOK m x = true) (hC : CG m 1) : zF σ 2 1638 [.ref 0, .int x] (zS1, m, yy) (.inl (some (.ref (1 + 10 + 7 * x.toNatClampNeg)))) (zS1, m, yy) := by
  obtain ⟨g1, g2⟩ := xk_1638 hC h
  have h4 := hC.c4
  unfold sOK at h
  rw [Bool.and_eq_true, Bool.not_eq_true'] at h
  intro d hd
  obtain ⟨d, rfl⟩ : ∃ k, d = k + 1 := ⟨d - 1, by omega⟩
  show zEv σ (d + 1) 1638 0 [some (.ref 0), some (.int x)] [] _ _ _
  refine zeP rfl rfl ?_
  refine zeF1 rfl rfl h.1 ?_
  refine zeP rfl rfl ?_
  refine zeP rfl rfl ?_
  refine zeGR rfl rfl zS00 rfl rfl ?_
  refine zeGI rfl rfl (shM bb1) rfl rfl ?_
  refine zeT2 rfl rfl h.2 ?_
  refine zeP rfl rfl ?_
  refine zeGR rfl rfl zS00 rfl rfl ?_
  refine zeKn (c := x.toNatClampNeg) rfl rfl g1 ?_
  refine zeCV rfl rfl rfl rfl (shM bb1) rfl (xc_strandAt (m := m) (b := 1) (t := x.toNatClampNeg) bb1 (by omega)) (by omega) ?_
  dsimp only [Option.toList, List.cons_append, List.nil_append]
  exact zeRe rfl rfl rfl rfl rfl rfl
theorem xn_1639 (h : wOK x = false) : zF σ 1 1639 [.int x] (zS1, m, yy) (.inr 0) (zS1, m, yt yy) := by
  intro d hd
  obtain ⟨d, rfl⟩ : ∃ k, d = k + 1 := ⟨d - 1, by omega⟩
  show zEv σ (d + 1) 1639 0 [some (.int x)] [] _ _ _
  refine zeP rfl rfl ?_
  refine zeB1 rfl rfl (fun h1 => ?_) (fun h1 => ?_)
  · exact zeThr rfl rfl rfl rfl rfl rfl rfl rfl
  · refine zeP rfl rfl ?_
    refine zeKn (c := 32) rfl rfl rfl ?_
    refine zeF2 rfl rfl ?_ ?_
    · unfold wOK at h
      rw [h1, Bool.not_false, Bool.true_and] at h
      exact h
    · exact zeThr rfl rfl rfl rfl rfl rfl rfl rfl
theorem xo_1639 (h : wOK x = true) : zF σ 1 1639 [.int x] (zS1, m, yy) (.inl (some (.int (Int32.ofNat x.toNatClampNeg)))) (zS1, m, yy) := by
  have g := (xk_1639 h).1
  unfold wOK at h
  rw [Bool.and_eq_true, Bool.not_eq_true'] at h
  intro d hd
  obtain ⟨d, rfl⟩ : ∃ k, d = k + 1 := ⟨d - 1, by omega⟩
  show zEv σ (d + 1) 1639 0 [some (.int x)] [] _ _ _
  refine zeP rfl rfl ?_
  refine zeF1 rfl rfl h.1 ?_
  refine zeP rfl rfl ?_
  refine zeKn (c := 32) rfl rfl rfl ?_
  refine zeT2 rfl rfl h.2 ?_
  refine zeKn (c := x.toNatClampNeg) rfl rfl g ?_
  exact zeRe rfl rfl rfl rfl rfl rfl
theorem xn_1640 (h : tOK x = false) : zF σ 1 1640 [.int x] (zS1, m, yy) (.inr 1) (zS1, m, yt yy) := by
  intro d hd
  obtain ⟨d, rfl⟩ : ∃ k, d = k + 1 := ⟨d - 1, by omega⟩
  show zEv σ (d + 1) 1640 0 [some (.int x)] [] _ _ _
  refine zeP rfl rfl ?_
  refine zeB1 rfl rfl (fun h1 => ?_) (fun h1 => ?_)
  · exact zeThr rfl rfl rfl rfl rfl rfl rfl rfl
  · refine zeP rfl rfl ?_
    refine zeKn (c := 1) rfl rfl rfl ?_
    refine zeF2 rfl rfl ?_ ?_
    · unfold tOK at h
      rw [h1, Bool.not_false, Bool.true_and] at h
      exact h
    · exact zeThr rfl rfl rfl rfl rfl rfl rfl rfl
theorem xo_1640 (h : tOK x = true) : zF σ 1 1640 [.int x] (zS1, m, yy) (.inl (some (.int (Int32.ofNat x.toNatClampNeg)))) (zS1, m, yy) := by
  have g := (xk_1640 h).1
  unfold tOK at h
  rw [Bool.and_eq_true, Bool.not_eq_true'] at h
  intro d hd
  obtain ⟨d, rfl⟩ : ∃ k, d = k + 1 := ⟨d - 1, by omega⟩
  show zEv σ (d + 1) 1640 0 [some (.int x)] [] _ _ _
  refine zeP rfl rfl ?_
  refine zeF1 rfl rfl h.1 ?_
  refine zeP rfl rfl ?_
  refine zeKn (c := 1) rfl rfl rfl ?_
  refine zeT2 rfl rfl h.2 ?_
  refine zeKn (c := x.toNatClampNeg) rfl rfl g ?_
  exact zeRe rfl rfl rfl rfl rfl rfl
theorem xn_1641 (h : kOK x = false) : zF σ 1 1641 [.int x] (zS1, m, yy) (.inr 2) (zS1, m, yt yy) := by
  intro d hd
  obtain ⟨d, rfl⟩ : ∃ k, d = k + 1 := ⟨d - 1, by omega⟩
  show zEv σ (d + 1) 1641 0 [some (.int x)] [] _ _ _
  refine zeP rfl rfl ?_
  refine zeKn (c := 1) rfl rfl rfl ?_
  refine zeB2 rfl rfl (fun h1 => ?_) (fun h1 => ?_)
  · exact zeThr rfl rfl rfl rfl rfl rfl rfl rfl
  · refine zeP rfl rfl ?_
    refine zeKn (c := 100) rfl rfl rfl ?_
    refine zeF2 rfl rfl ?_ ?_
    · unfold kOK at h
      rw [h1, Bool.not_false, Bool.true_and] at h
      exact h
    · exact zeThr rfl rfl rfl rfl rfl rfl rfl rfl
theorem xo_1641 (h : kOK x = true) : zF σ 1 1641 [.int x] (zS1, m, yy) (.inl (some (.int (Int32.ofNat x.toNatClampNeg)))) (zS1, m, yy) := by
  have g := (xk_1641 h).1
  unfold kOK at h
  rw [Bool.and_eq_true, Bool.not_eq_true'] at h
  intro d hd
  obtain ⟨d, rfl⟩ : ∃ k, d = k + 1 := ⟨d - 1, by omega⟩
  show zEv σ (d + 1) 1641 0 [some (.int x)] [] _ _ _
  refine zeP rfl rfl ?_
  refine zeKn (c := 1) rfl rfl rfl ?_
  refine zeF2 rfl rfl h.1 ?_
  refine zeP rfl rfl ?_
  refine zeKn (c := 100) rfl rfl rfl ?_
  refine zeT2 rfl rfl h.2 ?_
  refine zeKn (c := x.toNatClampNeg) rfl rfl g ?_
  exact zeRe rfl rfl rfl rfl rfl rfl
end ZCK
