/-! what the law keeps; answers alike; ranges -/
noncomputable def rg (v : Int32) (a b : Int) : Bool := decide (a ≤ v.toInt ∧ v.toInt < b)
theorem in_rg (v x y : Int32) : zc1 .ne (q_in v x y) = rg v x.toInt (y.toInt + 1) := by
  have e1 : zc2 .lt v x = decide (v < x) := rfl
  have e2 : zc2 .gt v y = decide (y < v) := rfl
  unfold q_in rg
  rw [e1, e2]
  by_cases h1 : v < x
  · rw [decide_eq_true h1, cnT, zne0]
    rw [Int32.lt_iff_toInt_lt] at h1
    exact (decide_eq_false (by omega)).symm
  · rw [decide_eq_false h1, cnF]
    rw [Int32.lt_iff_toInt_lt] at h1
    by_cases h2 : y < v
    · rw [decide_eq_true h2, cnT, zne0]
      rw [Int32.lt_iff_toInt_lt] at h2
      exact (decide_eq_false (by omega)).symm
    · rw [decide_eq_false h2, cnF, zn1]
      rw [Int32.lt_iff_toInt_lt] at h2
      exact (decide_eq_true (by omega)).symm
theorem zeq_n (z : Int32) : zc1 .eq z = !(zc1 .ne z) := by rw [zne_n, Bool.not_not]
theorem rg_n {v : Int32} {n : Int} (h : rg v 0 n = true) : v = Int32.ofNat v.toNatClampNeg ∧ (v.toNatClampNeg : Int) < n := by
  have a := of_decide_eq_true h
  obtain ⟨b, c⟩ := nat_ge (x := v) a.1
  exact ⟨b, by omega⟩
theorem lt_rg (v : Int32) {x : Int32} : (!zc1 .lt v && zc2 .lt v x) = rg v 0 x.toInt := by
  have e1 : zc1 .lt v = decide (v < 0) := rfl
  have e2 : zc2 .lt v x = decide (v < x) := rfl
  unfold rg
  rw [e1, e2, Bool.decide_and]
  congr 1
  · rw [← decide_not]
    refine decide_eq_decide.mpr ?_
    rw [Int32.lt_iff_toInt_lt, Int32.toInt_zero]
    omega
  · exact decide_eq_decide.mpr (Int32.lt_iff_toInt_lt)
theorem sOK_rg (m : Nat → Nat → Int32) (t : Int32) : sOK m t = rg t 0 (m 1 5).toInt := lt_rg t
theorem wOK_rg (t : Int32) : wOK t = rg t 0 32 := lt_rg t
theorem tOK_rg (v : Int32) : tOK v = rg v 0 2 := by
  have e1 : zc1 .lt v = decide (v < 0) := rfl
  have e2 : zc2 .le v (Int32.ofNat 1) = decide (v ≤ Int32.ofNat 1) := rfl
  unfold tOK rg
  rw [e1, e2, Bool.decide_and]
  congr 1
  · rw [← decide_not]
    refine decide_eq_decide.mpr ?_
    rw [Int32.lt_iff_toInt_lt, Int32.toInt_zero]
    omega
  · refine decide_eq_decide.mpr ?_
    rw [Int32.le_iff_toInt_le, zoN (by omega)]
    omega
theorem kOK_rg (v : Int32) : kOK v = rg v 1 101 := by
  have e1 : zc2 .lt v (Int32.ofNat 1) = decide (v < Int32.ofNat 1) := rfl
  have e2 : zc2 .le v (Int32.ofNat 100) = decide (v ≤ Int32.ofNat 100) := rfl
  unfold kOK rg
  rw [e1, e2, Bool.decide_and]
  congr 1
  · rw [← decide_not]
    refine decide_eq_decide.mpr ?_
    rw [Int32.lt_iff_toInt_lt, zoN (by omega)]
    omega
  · refine decide_eq_decide.mpr ?_
    rw [Int32.le_iff_toInt_le, zoN (by omega)]
    omega
/-- an answer of the class, the reference's mark and answer -/
noncomputable def AN (L : List Nat) (Y : Int32 ⊕ Nat) (c v : Int32) : Prop := match Y with
  | .inl w => c = Int32.ofNat 0 ∧ w = v
  | .inr e => ∃ i, L[i]? = some e ∧ c = Int32.ofNat (i + 1)
theorem AN.v {L : List Nat} {w c v : Int32} (h1 : c = Int32.ofNat 0) (h2 : w = v) : AN L (.inl w) c v := ⟨h1, h2⟩
theorem AN.x {L : List Nat} {e : Nat} {c v : Int32} (i : Nat) (h1 : L[i]? = some e) (h2 : c = Int32.ofNat (i + 1)) : AN L (.inr e) c v := ⟨i, h1, h2⟩
/-- at most twelve texts -/
noncomputable def TX (W : Nat → Int32) : Prop := ok W 10 0 12
/-- what the law keeps of both sides -/
noncomputable def LR (m : Nat → Nat → Int32) : Prop := (RC m 1 (m 138) ∧ WZ (m 138)) ∧ (m 137 4 = 0 ∨ (RC m 85 (m 139) ∧ WZ (m 139))) ∧ m 0 3 = m 137 4 ∧ m 0 5 = m 137 7 ∧ (∀ k, k < mv m 137 7 → m 127 k = m 141 k) ∧ m 0 6 = m 137 11 ∧ TX (m 138) ∧ (m 137 4 = 0 ∨ TX (m 139))
section ZLR
variable {m m1 m' : Nat → Nat → Int32} {W' : Nat → Int32}
theorem LR.of (h : LR m) (e : ∀ i l, (1 ≤ i ∧ i < 43) ∨ (85 ≤ i ∧ i < 128) ∨ (i = 0 ∧ (l = 3 ∨ l = 5 ∨ l = 6)) ∨ (i = 137 ∧ (l = 4 ∨ l = 7 ∨ l = 11)) ∨ i = 138 ∨ i = 139 ∨ i = 141 → m' i l = m i l) : LR m' := by
  have r : ∀ i, i = 138 ∨ i = 139 ∨ i = 141 → m' i = m i := fun i hi => funext (fun l => e i l (by omega))
  obtain ⟨⟨a1, a2⟩, a3, a4, a5, a6, a7, a8, a9⟩ := h
  refine ⟨?_, ?_, ?_, ?_, ?_, ?_, ?_, ?_⟩
  · rw [r 138 (by omega)]
    exact ⟨a1.far (fun i l h1 h2 => e i l (by omega)), a2⟩
  · rw [r 139 (by omega), e 137 4 (by omega)]
    rcases a3 with a3 | ⟨a3, b3⟩
    · exact Or.inl a3
    · exact Or.inr ⟨a3.far (fun i l h1 h2 => e i l (by omega)), b3⟩
  · rw [e 0 3 (by omega), e 137 4 (by omega)]; exact a4
  · rw [e 0 5 (by omega), e 137 7 (by omega)]; exact a5
  · unfold mv at a6 ⊢
    rw [e 137 7 (by omega), r 141 (by omega)]
    exact fun k hk => (e 127 k (by omega)).trans (a6 k hk)
  · rw [e 0 6 (by omega), e 137 11 (by omega)]; exact a7
  · rw [r 138 (by omega)]; exact a8
  · rw [r 139 (by omega), e 137 4 (by omega)]; exact a9
/-- a new world on both sides; nothing else that matters -/
theorem LR.new (h : LR m) (f : ∀ i l, (85 ≤ i ∧ i < 128) ∨ (i = 0 ∧ (l = 3 ∨ l = 5 ∨ l = 6)) ∨ 137 ≤ i → m1 i l = m i l) (g : MR m1 m') (r : RC m1 1 W') (w : WZ W') (x : TX W') : LR (zrow m' 138 W') := by
  have s : zrow m' 138 W' 138 = W' := if_pos rfl
  have e : ∀ i, i ≠ 137 → i ≠ 138 → i ≠ 140 → zrow m' 138 W' i = m1 i := fun i h1 h2 h3 => (if_neg h2).trans (g.1 i h1 h3)
  have k : ∀ l, l ≠ 0 → l ≠ 5 → zrow m' 138 W' 137 l = m1 137 l := fun l h1 h2 => (congrFun (if_neg (by decide)) l).trans (g.2 l h1 h2)
  obtain ⟨-, a3, a4, a5, a6, a7, -, a9⟩ := h
  refine ⟨?_, ?_, ?_, ?_, ?_, ?_, ?_, ?_⟩
  · rw [s]
    exact ⟨r.far (fun i l h1 h2 => congrFun (e i (by omega) (by omega) (by omega)) l), w⟩
  · rw [e 139 (by omega) (by omega) (by omega), k 4 (by omega) (by omega), f 137 4 (by omega), show m1 139 = m 139 from funext (fun l => f 139 l (by omega))]
    rcases a3 with a3 | ⟨a3, b3⟩
    · exact Or.inl a3
    · exact Or.inr ⟨a3.far (fun i l h1 h2 => (congrFun (e i (by omega) (by omega) (by omega)) l).trans (f i l (by omega))), b3⟩
  · rw [e 0 (by omega) (by omega) (by omega), k 4 (by omega) (by omega), f 0 3 (by omega), f 137 4 (by omega)]; exact a4
  · rw [e 0 (by omega) (by omega) (by omega), k 7 (by omega) (by omega), f 0 5 (by omega), f 137 7 (by omega)]; exact a5
  · unfold mv at a6 ⊢
    rw [k 7 (by omega) (by omega), f 137 7 (by omega), e 141 (by omega) (by omega) (by omega), e 127 (by omega) (by omega) (by omega)]
    intro j hj
    rw [f 127 j (by omega), f 141 j (by omega)]
    exact a6 j hj
  · rw [e 0 (by omega) (by omega) (by omega), k 11 (by omega) (by omega), f 0 6 (by omega), f 137 11 (by omega)]; exact a7
  · rw [s]; exact x
  · rw [e 139 (by omega) (by omega) (by omega), k 4 (by omega) (by omega), f 137 4 (by omega), show m1 139 = m 139 from funext (fun l => f 139 l (by omega))]
    exact a9
/-- a call of the reference that changes no world -/
theorem LR.ask (h : LR m) (g : MR m m') : LR (zrow m' 138 (m 138)) := h.new (fun _ _ _ => rfl) g h.1.1 h.1.2 h.2.2.2.2.2.2.1
theorem LR.n (h : LR m) : (m 1 5).toInt = (nv (m 138) 9 : Int) := by
  have e : m 1 5 = m 138 9 := h.1.1.globR (k := 9) (o := 0) (s := 5) (by omega) (by omega) rfl
  have h4 := h.1.2.W.N4
  rw [e, h.1.2.W.N, zoN (by omega)]
theorem noT (h : LR m) (M : Nat → Nat → Int32) (t : Int32) : q_noThread M (m 138) t = (bif sOK m t then (Int32.ofNat 0, zm2 M 137 0 (Int32.ofNat 0)) else (Int32.ofNat 1, zm2 (zm2 M 137 0 (Int32.ofNat 0)) 137 0 (Int32.ofNat 1))) := by
  have h4 := h.1.2.W.N4
  have q9 : q_threads (m 138) = Int32.ofNat (nv (m 138) 9) := h.1.2.W.N
  have e : (Int32.ofNat (nv (m 138) 9) - Int32.ofNat 1).toInt + 1 = (nv (m 138) 9 : Int) := by
    rw [Int32.toInt_sub, zoN (by omega), zoN (by omega), Int.bmod_eq_of_le (by omega) (by omega)]
    omega
  unfold q_noThread
  rw [q9, in_rg, e, sOK_rg, h.n, zoN (by omega)]
  rfl
theorem sOK_n (h : LR m) {t : Int32} (hs : sOK m t = true) : t = Int32.ofNat t.toNatClampNeg ∧ t.toNatClampNeg < nv (m 138) 9 ∧ t.toNatClampNeg < 4 := by
  have h4 := h.1.2.W.N4
  rw [sOK_rg, h.n] at hs
  obtain ⟨a, b⟩ := rg_n hs
  exact ⟨a, by omega, by omega⟩
theorem noW (M : Nat → Nat → Int32) (w : Int32) : q_noWord M w = (bif wOK w then (Int32.ofNat 0, M) else (Int32.ofNat 1, zm2 M 137 0 (Int32.ofNat 1))) := by
  unfold q_noWord
  rw [in_rg, wOK_rg, zoN (by omega), zoN (by omega)]
  rfl
theorem in01 (x : Int32) : zc1 .ne (q_in x (Int32.ofNat 0) (Int32.ofNat 1)) = tOK x := by
  rw [in_rg, tOK_rg, zoN (by omega), zoN (by omega)]
  rfl
theorem t01 {x : Int32} (h : tOK x = true) : x = Int32.ofNat 0 ∨ x = Int32.ofNat 1 := by
  rw [tOK_rg] at h
  obtain ⟨a, b⟩ := rg_n h
  have c : x.toNatClampNeg = 0 ∨ x.toNatClampNeg = 1 := by omega
  rcases c with c | c
  · rw [c] at a; exact Or.inl a
  · rw [c] at a; exact Or.inr a
theorem z_0 (M : Nat → Nat → Int32) (x : Int32) : zm2 M 137 0 x 137 0 = x := zx_at _ _ _ _
end ZLR
