/-! the law: what lies behind each of its calls -/
theorem XI.lo {m m' : Nat → Nat → Int32} (h : XI m) (f : LO m m') : XI m' := by
  have g : ∀ i l, i < 137 → m' i l = m i l := fun i l hi => congrFun (f i hi) l
  exact h.out (fun i l _ h2 => g i l (by omega)) (h.2.2.2.1.of (g _ _ (by omega))) (h.2.2.2.2.1.of (g _ _ (by omega))) (h.2.2.2.2.2.1.of (g _ _ (by omega))) (fun u hu => (h.2.2.2.2.2.2 u hu).of (g _ _ (by omega)))
theorem MI.fg {m m' : Nat → Nat → Int32} (h : MI m) (f : FG m m') : MI m' := by
  have g : ∀ i, 137 ≤ i → m' i = m i := fun i hi => funext (fun l => f i l (by omega))
  unfold MI MJ at *
  rw [g 138 (by omega), g 139 (by omega), f 137 4 (by omega)]
  refine ⟨h.1, h.2.1, h.2.2.1.of (f _ _ (by omega)), ?_, h.2.2.2.2.of (f _ _ (by omega))⟩
  rw [f 137 10 (by omega)]
  exact h.2.2.2.1
theorem MI.fi {m m' : Nat → Nat → Int32} (h : MI m) (f : ∀ i l, 137 ≤ i ∨ (i = 0 ∧ l = 5) → m' i l = m i l) : MI m' := by
  have g : ∀ i, 137 ≤ i → m' i = m i := fun i hi => funext (fun l => f i l (by omega))
  unfold MI MJ at *
  rw [g 138 (by omega), g 139 (by omega), f 137 4 (by omega)]
  refine ⟨h.1, h.2.1, h.2.2.1.of (f _ _ (by omega)), ?_, h.2.2.2.2.of (f _ _ (by omega))⟩
  rw [f 137 10 (by omega)]
  exact h.2.2.2.1
def LI (m : Nat → Nat → Int32) : Prop := XI m ∧ MI m ∧ m 0 5 = m 137 7 ∧ m 0 3 = m 137 4
theorem LI.two {m m1 m2 : Nat → Nat → Int32} (h : LI m) (a : XI m1) (f : FH m m1) (b : LO m1 m2) (c : MI m2) (e : m2 137 7 = m1 137 7) (e4 : m2 137 4 = m1 137 4) : LI m2 := ⟨a.lo b, c, (congrFun (b 0 (by omega)) 5).trans ((f 0 5 (by omega)).trans (h.2.2.1.trans ((f 137 7 (by omega)).symm.trans e.symm))), (congrFun (b 0 (by omega)) 3).trans ((f 0 3 (by omega)).trans (h.2.2.2.trans ((f 137 4 (by omega)).symm.trans e4.symm)))⟩
theorem LI.fl {m m1 m2 : Nat → Nat → Int32} (h : LI m) (f : FG m m1) (b : LO m1 m2) (e4 : m2 137 4 = m1 137 4) : m2 0 3 = m2 137 4 := (congrFun (b 0 (by omega)) 3).trans ((f 0 3 (by omega)).trans (h.2.2.2.trans ((f 137 4 (by omega)).symm.trans e4.symm)))
theorem zinB3 {k n : Nat} (hk : k < n) (hn : n ≤ 100000) : zoutB (Int32.ofNat k) n = false := by
  unfold zoutB
  rw [Bool.or_eq_false_iff]
  constructor
  · apply decide_eq_false
    rw [Int32.lt_iff_toInt_lt, Int32.toInt_zero, zoN (by omega)]
    omega
  · apply decide_eq_false
    rw [nv_on (by omega)]
    omega
section ZLW
variable {L : Nat} {xs : Nat → Int32} {yy : (Nat → Nat → Int64) × Bool × Nat × Nat} {m : Nat → Nat → Int32}
theorem zsig_S : ZS (zsig L xs) := fun n _ => rfl
theorem zeScr {d j pc k : Nat} {lv : zLv} {r : List Value} {M M' : zMem} {o : zO} (hk : k < L) (hL : L ≤ 3072) (hf : zfe j pc = some (.iaload, 1)) (kk : zEv (zsig L xs) d j (pc + 1) lv (.int (xs k) :: r) M o M') : zEv (zsig L xs) d j pc lv (.int (Int32.ofNat k) :: .ref 1000 :: r) M o M' := by
  refine zeS hf rfl ?_ kk
  have h4 : zoutB (Int32.ofNat k) L = false := zinB3 hk (by omega)
  have h5 : (Int32.ofNat k).toNatClampNeg = k := nv_on (by omega)
  have h1 : Nat.blt 1000 1000 = false := by decide
  have h2 : Nat.blt 1000 1005 = true := by decide
  have h3 : (1000 - 1000 : Nat) = 0 := by decide
  have h6 : zsig L xs 0 = (L, xs) := by unfold zsig; rfl
  simp only [zS, ziald, h1, cond_false, h2, h3, h6, h4, h5, Bool.not_false, Bool.and_self, cond_true]
theorem dd_fault (h : XI m) : ∃ v m1, (XI m1 ∧ FH m m1) ∧ zF (zsig L xs) 19 1605 [.ref 0] (zS1, m, yy) (.inl (some (.int v))) (zS1, m1, yy) := by
  have e := ec_fault (σ := zsig L xs) (yy := yy) (m := m) 
  exact ⟨_, m, ⟨h, FH.rf⟩, e.up (by omega)⟩
theorem dd_seed {n : Int32} (h : XI m) : ∃ v m1, (XI m1 ∧ FH m m1) ∧ zF (zsig L xs) 19 1621 [.ref 0, .int n] (zS1, m, yy) (.inl (some (.int v))) (zS1, m1, yy) := by
  have e := ec_seed (σ := zsig L xs) (yy := yy) (m := m) (n := n) 
  have x := seed_x (n := n) h
  exact ⟨_, _, ⟨x.1, x.2⟩, e.up (by omega)⟩
theorem dd_plain (h : XI m) : ∃ v m1, (XI m1 ∧ FH m m1) ∧ zF (zsig L xs) 19 1624 [.ref 0] (zS1, m, yy) (.inl (some (.int v))) (zS1, m1, yy) := by
  have e := ec_plain (σ := zsig L xs) (yy := yy) (m := m) h.1.1 h.1.2 h.2.1.1 h.2.1.2
  have x := plain_x h
  exact ⟨_, _, ⟨x.1, x.2⟩, e.up (by omega)⟩
theorem dd_serial {k : Int32} (h : XI m) : ∃ v m1, (XI m1 ∧ FH m m1) ∧ zF (zsig L xs) 19 1630 [.ref 0, .int k] (zS1, m, yy) (.inl (some (.int v))) (zS1, m1, yy) := by
  have e := ec_serial (σ := zsig L xs) (yy := yy) (m := m) (k := k) h.1.1.c4 h.j
  have x := serial_x (k := k) h
  exact ⟨_, _, ⟨x.1, x.2⟩, e.up (by omega)⟩
theorem dd_octet {k : Int32} (h : XI m) : ∃ v m1, (XI m1 ∧ FH m m1) ∧ zF (zsig L xs) 19 1634 [.ref 0, .int k] (zS1, m, yy) (.inl (some (.int v))) (zS1, m1, yy) := by
  have e := ec_octet (σ := zsig L xs) (yy := yy) (m := m) (k := k) 
  exact ⟨_, m, ⟨h, FH.rf⟩, e.up (by omega)⟩
theorem dd_back (h : XI m) : ∃ v m1, (XI m1 ∧ FH m m1) ∧ zF (zsig L xs) 19 1636 [.ref 0] (zS1, m, yy) (.inl (some (.int v))) (zS1, m1, yy) := by
  have e := ec_back (σ := zsig L xs) (yy := yy) (m := m) h.2.2.1.1 h.2.2.1.2
  have x := back_x h
  exact ⟨_, _, ⟨x.1, x.2⟩, e.up (by omega)⟩
theorem dd_count {x : Int32} (h : XI m) : ∃ v m1, (XI m1 ∧ FH m m1) ∧ zF (zsig L xs) 19 1637 [.ref 0, .int x] (zS1, m, yy) (.inl (some (.int v))) (zS1, m1, yy) := by
  have e := ec_count (σ := zsig L xs) (yy := yy) (m := m) (x := x) h.1.1
  exact ⟨_, m, ⟨h, FH.rf⟩, e.up (by omega)⟩
theorem dd_image (h : XI m) : ∃ m1, (XI m1 ∧ (∀ i l, 137 ≤ i ∨ (i = 0 ∧ l = 5) → m1 i l = m i l) ∧ m1 0 3 = Int32.ofNat 1) ∧ zF (zsig L xs) 19 1635 [.ref 0] (zS1, m, yy) (.inl none) (zS1, m1, yy) := ⟨_, image_x h, (ec_image (σ := zsig L xs) (yy := yy) (m := m) h.1.1 h.1.2).up (by omega)⟩
/-- what a case of the law comes to -/
def LC (L : Nat) (xs : Nat → Int32) (c pcK : Nat) (x5 x6 : Option Value) (m : Nat → Nat → Int32) (yy : (Nat → Nat → Int64) × Bool × Nat × Nat) : Prop := ∃ m' yy' y5 y6, LI m' ∧ YG yy yy' ∧ ∀ o M', zEv (zsig L xs) (19 + 1) 2024 1268 [some (.ref 1000), some (.ref 0), some (.ref 137), some (.ref 146), some (.int (Int32.ofNat (6 * c))), y5, y6] [] (zS1, m', yy') o M' → zEv (zsig L xs) (19 + 1) 2024 pcK [some (.ref 1000), some (.ref 0), some (.ref 137), some (.ref 146), some (.int (Int32.ofNat (6 * c))), x5, x6] [] (zS1, m, yy) o M'
theorem end_v {n : Int32} : (e_end m n).1 = (bif zc1 .lt n then Int32.ofNat 0 else bif zc2 .le n (m 0 5) then Int32.ofNat 1 else Int32.ofNat 0) := by
  unfold e_end
  cases zc1 .lt n with
  | true => rfl
  | false => cases zc2 .le n (m 0 5) <;> rfl
theorem q_end_v {n : Int32} : (q_end m n).1 = (bif zc1 .lt n then Int32.ofNat 0 else bif zc2 .le n (m 137 7) then Int32.ofNat 1 else Int32.ofNat 0) := by
  have e7 : zm2 m 137 0 (Int32.ofNat 0) 137 7 = m 137 7 := zx_nk _ _ (by decide)
  unfold q_end
  rw [e7]
  cases zc1 .lt n with
  | true => rfl
  | false => cases zc2 .le n (m 137 7) <;> rfl
theorem end_5 {n : Int32} : (e_end m n).2 0 5 = (bif zc1 .lt n then m 0 5 else bif zc2 .le n (m 0 5) then n else m 0 5) := by
  unfold e_end
  cases zc1 .lt n with
  | true => rfl
  | false =>
    cases zc2 .le n (m 0 5) with
    | true =>
      show zm2 m 0 5 n 0 5 = n
      exact zx_at _ _ _ _
    | false => rfl
set_option maxRecDepth 100000 in
theorem lc_end {c : Nat} {x5 x6 : Option Value} (h : LI m) (hc : 6 * c + 6 ≤ L) (hL : L ≤ 3072) : LC L xs c 265 x5 x6 m yy := by
  have e1 := (ec_end (σ := zsig L xs) (yy := yy) (m := m) (n := (xs (6 * c + 1)))).up (h' := 19) (by omega)
  have x1 : XI (e_end m (xs (6 * c + 1))).2 ∧ FG m (e_end m (xs (6 * c + 1))).2 := end_x (n := (xs (6 * c + 1))) h.1
  have z1 : (e_end m (xs (6 * c + 1))).2 0 5 = (bif zc1 .lt (xs (6 * c + 1)) then m 0 5 else bif zc2 .le (xs (6 * c + 1)) (m 0 5) then xs (6 * c + 1) else m 0 5) := end_5
  generalize (e_end m (xs (6 * c + 1))).1 = v1 at e1
  generalize (e_end m (xs (6 * c + 1))).2 = m1 at e1 x1 z1
  obtain ⟨xi, xf⟩ : XI m1 ∧ FG m m1 := x1
  obtain ⟨m2, ⟨q1, q2, q3, q4⟩, b2⟩ := rr_end (σ := zsig L xs) (yy := yy) (n := (xs (6 * c + 1))) (h.2.1.fg xf)
  refine ⟨m2, yy, x5, x6, ⟨xi.lo q2, q1, ?_, h.fl xf q2 q4⟩, YG.rf, fun o M' kk => ?_⟩
  · refine (congrFun (q2 0 (by omega)) 5).trans (z1.trans (Eq.trans ?_ q3.symm))
    rw [xf 137 7 (by omega), h.2.2.1]
  · refine zeP rfl rfl ?_
    refine zeP rfl rfl ?_
    refine zeP rfl rfl ?_
    refine zeKn (c := 1) rfl rfl rfl ?_
    refine zeAdd rfl ?_
    refine zeScr (k := 6 * c + 1) (by omega) hL rfl ?_
    refine zeCV rfl rfl rfl rfl zS00 rfl e1 (by omega) ?_
    dsimp only [Option.toList, List.cons_append, List.nil_append]
    refine zeP rfl rfl ?_
    refine zeP rfl rfl ?_
    refine zeP rfl rfl ?_
    refine zeP rfl rfl ?_
    refine zeKn (c := 1) rfl rfl rfl ?_
    refine zeAdd rfl ?_
    refine zeScr (k := 6 * c + 1) (by omega) hL rfl ?_
    refine zeCF rfl rfl rfl rfl rfl rfl b2 (by omega) ?_
    dsimp only [Option.toList, List.cons_append, List.nil_append]
    refine zeP rfl rfl ?_
    refine zeP rfl rfl ?_
    exact kk
set_option maxRecDepth 100000 in
theorem lc_machine {c : Nat} {x5 x6 : Option Value} (h : LI m) (hc : 6 * c + 6 ≤ L) (hL : L ≤ 3072) : LC L xs c 290 x5 x6 m yy := by
  obtain ⟨v1, m1, yy1, ⟨xi, xf, z1⟩, yg, b1⟩ := hp_machine (yy := yy) (zsig_S (L := L) (xs := xs)) h.1
  obtain ⟨v2, m2, ⟨q1, q2, q3, q4⟩, b2⟩ := rr_machine (σ := zsig L xs) (yy := yy1) (h.2.1.fg xf)
  refine ⟨m2, yy1, some (.int v1), some (.int v2), ⟨xi.lo q2, q1, (congrFun (q2 0 (by omega)) 5).trans (z1.trans q3.symm), h.fl xf q2 q4⟩, yg, fun o M' kk => ?_⟩
  refine zeP rfl rfl ?_
  refine zeP rfl rfl ?_
  refine zeCF rfl rfl rfl rfl rfl rfl b1 (by omega) ?_
  dsimp only [Option.toList, List.cons_append, List.nil_append]
  refine zeP rfl rfl ?_
  refine zeP rfl rfl ?_
  refine zeCF rfl rfl rfl rfl rfl rfl b2 (by omega) ?_
  dsimp only [Option.toList, List.cons_append, List.nil_append]
  refine zeP rfl rfl ?_
  refine zeP rfl rfl ?_
  exact kk
set_option maxRecDepth 100000 in
theorem lc_fault {c : Nat} {x5 x6 : Option Value} (h : LI m) (hc : 6 * c + 6 ≤ L) (hL : L ≤ 3072) : LC L xs c 306 x5 x6 m yy := by
  obtain ⟨v1, m1, ⟨xi, xf⟩, b1⟩ := dd_fault (L := L) (xs := xs) (yy := yy) h.1
  obtain ⟨v2, m2, ⟨q1, q2, q3, q4⟩, b2⟩ := rr_fault (σ := zsig L xs) (yy := yy) (h.2.1.fg xf.g)
  refine ⟨m2, yy, x5, x6, h.two xi xf q2 q1 q3 q4, YG.rf, fun o M' kk => ?_⟩
  refine zeP rfl rfl ?_
  refine zeCV rfl rfl rfl rfl zS00 rfl b1 (by omega) ?_
  dsimp only [Option.toList, List.cons_append, List.nil_append]
  refine zeP rfl rfl ?_
  refine zeP rfl rfl ?_
  refine zeCF rfl rfl rfl rfl rfl rfl b2 (by omega) ?_
  dsimp only [Option.toList, List.cons_append, List.nil_append]
  refine zeP rfl rfl ?_
  refine zeP rfl rfl ?_
  exact kk
set_option maxRecDepth 100000 in
theorem lc_thread {c : Nat} {x5 x6 : Option Value} (h : LI m) (hc : 6 * c + 6 ≤ L) (hL : L ≤ 3072) : LC L xs c 319 x5 x6 m yy := by
  obtain ⟨v1, m1, yy1, ⟨xi, xf⟩, yg, b1⟩ := hp_thread (σ := zsig L xs) (yy := yy) (t := (xs (6 * c + 1))) (x := (xs (6 * c + 2))) h.1
  obtain ⟨v2, m2, ⟨q1, q2, q3, q4⟩, b2⟩ := rr_thread (σ := zsig L xs) (yy := yy1) (t := (xs (6 * c + 1))) (x := (xs (6 * c + 2))) (h.2.1.fg xf.g)
  refine ⟨m2, yy1, some (.int v1), some (.int v2), h.two xi xf q2 q1 q3 q4, yg, fun o M' kk => ?_⟩
  refine zeP rfl rfl ?_
  refine zeP rfl rfl ?_
  refine zeP rfl rfl ?_
  refine zeKn (c := 1) rfl rfl rfl ?_
  refine zeAdd rfl ?_
  refine zeScr (k := 6 * c + 1) (by omega) hL rfl ?_
  refine zeP rfl rfl ?_
  refine zeP rfl rfl ?_
  refine zeKn (c := 2) rfl rfl rfl ?_
  refine zeAdd rfl ?_
  refine zeScr (k := 6 * c + 2) (by omega) hL rfl ?_
  refine zeP rfl rfl ?_
  refine zeCF rfl rfl rfl rfl rfl rfl b1 (by omega) ?_
  dsimp only [Option.toList, List.cons_append, List.nil_append]
  refine zeP rfl rfl ?_
  refine zeP rfl rfl ?_
  refine zeP rfl rfl ?_
  refine zeP rfl rfl ?_
  refine zeKn (c := 1) rfl rfl rfl ?_
  refine zeAdd rfl ?_
  refine zeScr (k := 6 * c + 1) (by omega) hL rfl ?_
  refine zeP rfl rfl ?_
  refine zeP rfl rfl ?_
  refine zeKn (c := 2) rfl rfl rfl ?_
  refine zeAdd rfl ?_
  refine zeScr (k := 6 * c + 2) (by omega) hL rfl ?_
  refine zeCF rfl rfl rfl rfl rfl rfl b2 (by omega) ?_
  dsimp only [Option.toList, List.cons_append, List.nil_append]
  refine zeP rfl rfl ?_
  refine zeP rfl rfl ?_
  exact kk
set_option maxRecDepth 100000 in
theorem lc_leftOut {c : Nat} {x5 x6 : Option Value} (h : LI m) (hc : 6 * c + 6 ≤ L) (hL : L ≤ 3072) : LC L xs c 359 x5 x6 m yy := by
  obtain ⟨v1, m1, yy1, ⟨xi, xf⟩, yg, b1⟩ := hp_leftOut (σ := zsig L xs) (yy := yy) (t := (xs (6 * c + 1))) (k := (xs (6 * c + 2))) h.1
  obtain ⟨v2, m2, ⟨q1, q2, q3, q4⟩, b2⟩ := rr_leftOut (σ := zsig L xs) (yy := yy1) (t := (xs (6 * c + 1))) (k := (xs (6 * c + 2))) (h.2.1.fg xf.g)
  refine ⟨m2, yy1, some (.int v1), some (.int v2), h.two xi xf q2 q1 q3 q4, yg, fun o M' kk => ?_⟩
  refine zeP rfl rfl ?_
  refine zeP rfl rfl ?_
  refine zeP rfl rfl ?_
  refine zeKn (c := 1) rfl rfl rfl ?_
  refine zeAdd rfl ?_
  refine zeScr (k := 6 * c + 1) (by omega) hL rfl ?_
  refine zeP rfl rfl ?_
  refine zeP rfl rfl ?_
  refine zeKn (c := 2) rfl rfl rfl ?_
  refine zeAdd rfl ?_
  refine zeScr (k := 6 * c + 2) (by omega) hL rfl ?_
  refine zeP rfl rfl ?_
  refine zeCF rfl rfl rfl rfl rfl rfl b1 (by omega) ?_
  dsimp only [Option.toList, List.cons_append, List.nil_append]
  refine zeP rfl rfl ?_
  refine zeP rfl rfl ?_
  refine zeP rfl rfl ?_
  refine zeP rfl rfl ?_
  refine zeKn (c := 1) rfl rfl rfl ?_
  refine zeAdd rfl ?_
  refine zeScr (k := 6 * c + 1) (by omega) hL rfl ?_
  refine zeP rfl rfl ?_
  refine zeP rfl rfl ?_
  refine zeKn (c := 2) rfl rfl rfl ?_
  refine zeAdd rfl ?_
  refine zeScr (k := 6 * c + 2) (by omega) hL rfl ?_
  refine zeCF rfl rfl rfl rfl rfl rfl b2 (by omega) ?_
  dsimp only [Option.toList, List.cons_append, List.nil_append]
  refine zeP rfl rfl ?_
  refine zeP rfl rfl ?_
  exact kk
set_option maxRecDepth 100000 in
theorem lc_blocks {c : Nat} {x5 x6 : Option Value} (h : LI m) (hc : 6 * c + 6 ≤ L) (hL : L ≤ 3072) : LC L xs c 399 x5 x6 m yy := by
  obtain ⟨v1, m1, yy1, ⟨xi, xf⟩, yg, b1⟩ := hp_blocks (σ := zsig L xs) (yy := yy) (t := (xs (6 * c + 1))) (x := (xs (6 * c + 2))) h.1
  obtain ⟨v2, m2, ⟨q1, q2, q3, q4⟩, b2⟩ := rr_blocks (σ := zsig L xs) (yy := yy1) (t := (xs (6 * c + 1))) (x := (xs (6 * c + 2))) (h.2.1.fg xf.g)
  refine ⟨m2, yy1, some (.int v1), some (.int v2), h.two xi xf q2 q1 q3 q4, yg, fun o M' kk => ?_⟩
  refine zeP rfl rfl ?_
  refine zeP rfl rfl ?_
  refine zeP rfl rfl ?_
  refine zeKn (c := 1) rfl rfl rfl ?_
  refine zeAdd rfl ?_
  refine zeScr (k := 6 * c + 1) (by omega) hL rfl ?_
  refine zeP rfl rfl ?_
  refine zeP rfl rfl ?_
  refine zeKn (c := 2) rfl rfl rfl ?_
  refine zeAdd rfl ?_
  refine zeScr (k := 6 * c + 2) (by omega) hL rfl ?_
  refine zeP rfl rfl ?_
  refine zeCF rfl rfl rfl rfl rfl rfl b1 (by omega) ?_
  dsimp only [Option.toList, List.cons_append, List.nil_append]
  refine zeP rfl rfl ?_
  refine zeP rfl rfl ?_
  refine zeP rfl rfl ?_
  refine zeP rfl rfl ?_
  refine zeKn (c := 1) rfl rfl rfl ?_
  refine zeAdd rfl ?_
  refine zeScr (k := 6 * c + 1) (by omega) hL rfl ?_
  refine zeP rfl rfl ?_
  refine zeP rfl rfl ?_
  refine zeKn (c := 2) rfl rfl rfl ?_
  refine zeAdd rfl ?_
  refine zeScr (k := 6 * c + 2) (by omega) hL rfl ?_
  refine zeCF rfl rfl rfl rfl rfl rfl b2 (by omega) ?_
  dsimp only [Option.toList, List.cons_append, List.nil_append]
  refine zeP rfl rfl ?_
  refine zeP rfl rfl ?_
  exact kk
set_option maxRecDepth 100000 in
theorem lc_fell {c : Nat} {x5 x6 : Option Value} (h : LI m) (hc : 6 * c + 6 ≤ L) (hL : L ≤ 3072) : LC L xs c 439 x5 x6 m yy := by
  obtain ⟨v1, m1, yy1, ⟨xi, xf⟩, yg, b1⟩ := hp_fell (σ := zsig L xs) (yy := yy) (t := (xs (6 * c + 1))) (x := (xs (6 * c + 2))) h.1
  obtain ⟨v2, m2, ⟨q1, q2, q3, q4⟩, b2⟩ := rr_fell (σ := zsig L xs) (yy := yy1) (t := (xs (6 * c + 1))) (y := (xs (6 * c + 2))) (h.2.1.fg xf.g)
  refine ⟨m2, yy1, some (.int v1), some (.int v2), h.two xi xf q2 q1 q3 q4, yg, fun o M' kk => ?_⟩
  refine zeP rfl rfl ?_
  refine zeP rfl rfl ?_
  refine zeP rfl rfl ?_
  refine zeKn (c := 1) rfl rfl rfl ?_
  refine zeAdd rfl ?_
  refine zeScr (k := 6 * c + 1) (by omega) hL rfl ?_
  refine zeP rfl rfl ?_
  refine zeP rfl rfl ?_
  refine zeKn (c := 2) rfl rfl rfl ?_
  refine zeAdd rfl ?_
  refine zeScr (k := 6 * c + 2) (by omega) hL rfl ?_
  refine zeP rfl rfl ?_
  refine zeCF rfl rfl rfl rfl rfl rfl b1 (by omega) ?_
  dsimp only [Option.toList, List.cons_append, List.nil_append]
  refine zeP rfl rfl ?_
  refine zeP rfl rfl ?_
  refine zeP rfl rfl ?_
  refine zeP rfl rfl ?_
  refine zeKn (c := 1) rfl rfl rfl ?_
  refine zeAdd rfl ?_
  refine zeScr (k := 6 * c + 1) (by omega) hL rfl ?_
  refine zeP rfl rfl ?_
  refine zeP rfl rfl ?_
  refine zeKn (c := 2) rfl rfl rfl ?_
  refine zeAdd rfl ?_
  refine zeScr (k := 6 * c + 2) (by omega) hL rfl ?_
  refine zeCF rfl rfl rfl rfl rfl rfl b2 (by omega) ?_
  dsimp only [Option.toList, List.cons_append, List.nil_append]
  refine zeP rfl rfl ?_
  refine zeP rfl rfl ?_
  exact kk
set_option maxRecDepth 100000 in
theorem lc_word {c : Nat} {x5 x6 : Option Value} (h : LI m) (hc : 6 * c + 6 ≤ L) (hL : L ≤ 3072) : LC L xs c 479 x5 x6 m yy := by
  obtain ⟨v1, m1, yy1, ⟨xi, xf⟩, yg, b1⟩ := hp_word (σ := zsig L xs) (yy := yy) (w := (xs (6 * c + 1))) h.1
  obtain ⟨v2, m2, ⟨q1, q2, q3, q4⟩, b2⟩ := rr_word (σ := zsig L xs) (yy := yy1) (w := (xs (6 * c + 1))) (h.2.1.fg xf.g)
  refine ⟨m2, yy1, some (.int v1), some (.int v2), h.two xi xf q2 q1 q3 q4, yg, fun o M' kk => ?_⟩
  refine zeP rfl rfl ?_
  refine zeP rfl rfl ?_
  refine zeP rfl rfl ?_
  refine zeKn (c := 1) rfl rfl rfl ?_
  refine zeAdd rfl ?_
  refine zeScr (k := 6 * c + 1) (by omega) hL rfl ?_
  refine zeP rfl rfl ?_
  refine zeCF rfl rfl rfl rfl rfl rfl b1 (by omega) ?_
  dsimp only [Option.toList, List.cons_append, List.nil_append]
  refine zeP rfl rfl ?_
  refine zeP rfl rfl ?_
  refine zeP rfl rfl ?_
  refine zeP rfl rfl ?_
  refine zeKn (c := 1) rfl rfl rfl ?_
  refine zeAdd rfl ?_
  refine zeScr (k := 6 * c + 1) (by omega) hL rfl ?_
  refine zeCF rfl rfl rfl rfl rfl rfl b2 (by omega) ?_
  dsimp only [Option.toList, List.cons_append, List.nil_append]
  refine zeP rfl rfl ?_
  refine zeP rfl rfl ?_
  exact kk
set_option maxRecDepth 100000 in
theorem lc_sees {c : Nat} {x5 x6 : Option Value} (h : LI m) (hc : 6 * c + 6 ≤ L) (hL : L ≤ 3072) : LC L xs c 507 x5 x6 m yy := by
  obtain ⟨v1, m1, yy1, ⟨xi, xf⟩, yg, b1⟩ := hp_sees (σ := zsig L xs) (yy := yy) (t := (xs (6 * c + 1))) (w := (xs (6 * c + 2))) h.1
  obtain ⟨v2, m2, ⟨q1, q2, q3, q4⟩, b2⟩ := rr_sees (σ := zsig L xs) (yy := yy1) (t := (xs (6 * c + 1))) (w := (xs (6 * c + 2))) (h.2.1.fg xf.g)
  refine ⟨m2, yy1, some (.int v1), some (.int v2), h.two xi xf q2 q1 q3 q4, yg, fun o M' kk => ?_⟩
  refine zeP rfl rfl ?_
  refine zeP rfl rfl ?_
  refine zeP rfl rfl ?_
  refine zeKn (c := 1) rfl rfl rfl ?_
  refine zeAdd rfl ?_
  refine zeScr (k := 6 * c + 1) (by omega) hL rfl ?_
  refine zeP rfl rfl ?_
  refine zeP rfl rfl ?_
  refine zeKn (c := 2) rfl rfl rfl ?_
  refine zeAdd rfl ?_
  refine zeScr (k := 6 * c + 2) (by omega) hL rfl ?_
  refine zeP rfl rfl ?_
  refine zeCF rfl rfl rfl rfl rfl rfl b1 (by omega) ?_
  dsimp only [Option.toList, List.cons_append, List.nil_append]
  refine zeP rfl rfl ?_
  refine zeP rfl rfl ?_
  refine zeP rfl rfl ?_
  refine zeP rfl rfl ?_
  refine zeKn (c := 1) rfl rfl rfl ?_
  refine zeAdd rfl ?_
  refine zeScr (k := 6 * c + 1) (by omega) hL rfl ?_
  refine zeP rfl rfl ?_
  refine zeP rfl rfl ?_
  refine zeKn (c := 2) rfl rfl rfl ?_
  refine zeAdd rfl ?_
  refine zeScr (k := 6 * c + 2) (by omega) hL rfl ?_
  refine zeCF rfl rfl rfl rfl rfl rfl b2 (by omega) ?_
  dsimp only [Option.toList, List.cons_append, List.nil_append]
  refine zeP rfl rfl ?_
  refine zeP rfl rfl ?_
  exact kk
set_option maxRecDepth 100000 in
theorem lc_lock {c : Nat} {x5 x6 : Option Value} (h : LI m) (hc : 6 * c + 6 ≤ L) (hL : L ≤ 3072) : LC L xs c 547 x5 x6 m yy := by
  obtain ⟨v1, m1, yy1, ⟨xi, xf⟩, yg, b1⟩ := hp_lock (σ := zsig L xs) (yy := yy) (l := (xs (6 * c + 1))) (x := (xs (6 * c + 2))) h.1
  obtain ⟨v2, m2, ⟨q1, q2, q3, q4⟩, b2⟩ := rr_lock (σ := zsig L xs) (yy := yy1) (l := (xs (6 * c + 1))) (x := (xs (6 * c + 2))) (h.2.1.fg xf.g)
  refine ⟨m2, yy1, some (.int v1), some (.int v2), h.two xi xf q2 q1 q3 q4, yg, fun o M' kk => ?_⟩
  refine zeP rfl rfl ?_
  refine zeP rfl rfl ?_
  refine zeP rfl rfl ?_
  refine zeKn (c := 1) rfl rfl rfl ?_
  refine zeAdd rfl ?_
  refine zeScr (k := 6 * c + 1) (by omega) hL rfl ?_
  refine zeP rfl rfl ?_
  refine zeP rfl rfl ?_
  refine zeKn (c := 2) rfl rfl rfl ?_
  refine zeAdd rfl ?_
  refine zeScr (k := 6 * c + 2) (by omega) hL rfl ?_
  refine zeP rfl rfl ?_
  refine zeCF rfl rfl rfl rfl rfl rfl b1 (by omega) ?_
  dsimp only [Option.toList, List.cons_append, List.nil_append]
  refine zeP rfl rfl ?_
  refine zeP rfl rfl ?_
  refine zeP rfl rfl ?_
  refine zeP rfl rfl ?_
  refine zeKn (c := 1) rfl rfl rfl ?_
  refine zeAdd rfl ?_
  refine zeScr (k := 6 * c + 1) (by omega) hL rfl ?_
  refine zeP rfl rfl ?_
  refine zeP rfl rfl ?_
  refine zeKn (c := 2) rfl rfl rfl ?_
  refine zeAdd rfl ?_
  refine zeScr (k := 6 * c + 2) (by omega) hL rfl ?_
  refine zeCF rfl rfl rfl rfl rfl rfl b2 (by omega) ?_
  dsimp only [Option.toList, List.cons_append, List.nil_append]
  refine zeP rfl rfl ?_
  refine zeP rfl rfl ?_
  exact kk
set_option maxRecDepth 100000 in
theorem lc_term {c : Nat} {x5 x6 : Option Value} (h : LI m) (hc : 6 * c + 6 ≤ L) (hL : L ≤ 3072) : LC L xs c 587 x5 x6 m yy := by
  obtain ⟨v1, m1, yy1, ⟨xi, xf⟩, yg, b1⟩ := hp_term (σ := zsig L xs) (yy := yy) (x := (xs (6 * c + 1))) h.1
  obtain ⟨v2, m2, ⟨q1, q2, q3, q4⟩, b2⟩ := rr_term (σ := zsig L xs) (yy := yy1) (x := (xs (6 * c + 1))) (h.2.1.fg xf.g)
  refine ⟨m2, yy1, some (.int v1), some (.int v2), h.two xi xf q2 q1 q3 q4, yg, fun o M' kk => ?_⟩
  refine zeP rfl rfl ?_
  refine zeP rfl rfl ?_
  refine zeP rfl rfl ?_
  refine zeKn (c := 1) rfl rfl rfl ?_
  refine zeAdd rfl ?_
  refine zeScr (k := 6 * c + 1) (by omega) hL rfl ?_
  refine zeP rfl rfl ?_
  refine zeCF rfl rfl rfl rfl rfl rfl b1 (by omega) ?_
  dsimp only [Option.toList, List.cons_append, List.nil_append]
  refine zeP rfl rfl ?_
  refine zeP rfl rfl ?_
  refine zeP rfl rfl ?_
  refine zeP rfl rfl ?_
  refine zeKn (c := 1) rfl rfl rfl ?_
  refine zeAdd rfl ?_
  refine zeScr (k := 6 * c + 1) (by omega) hL rfl ?_
  refine zeCF rfl rfl rfl rfl rfl rfl b2 (by omega) ?_
  dsimp only [Option.toList, List.cons_append, List.nil_append]
  refine zeP rfl rfl ?_
  refine zeP rfl rfl ?_
  exact kk
set_option maxRecDepth 100000 in
theorem lc_deed {c : Nat} {x5 x6 : Option Value} (h : LI m) (hc : 6 * c + 6 ≤ L) (hL : L ≤ 3072) : LC L xs c 615 x5 x6 m yy := by
  obtain ⟨v1, m1, yy1, ⟨xi, xf⟩, yg, b1⟩ := hp_deed (σ := zsig L xs) (yy := yy) (t := (xs (6 * c + 1))) (k := (xs (6 * c + 2))) (x := (xs (6 * c + 3))) h.1
  obtain ⟨v2, m2, ⟨q1, q2, q3, q4⟩, b2⟩ := rr_deed (σ := zsig L xs) (yy := yy1) (t := (xs (6 * c + 1))) (p := (xs (6 * c + 2))) (x := (xs (6 * c + 3))) (h.2.1.fg xf.g)
  refine ⟨m2, yy1, some (.int v1), some (.int v2), h.two xi xf q2 q1 q3 q4, yg, fun o M' kk => ?_⟩
  refine zeP rfl rfl ?_
  refine zeP rfl rfl ?_
  refine zeP rfl rfl ?_
  refine zeKn (c := 1) rfl rfl rfl ?_
  refine zeAdd rfl ?_
  refine zeScr (k := 6 * c + 1) (by omega) hL rfl ?_
  refine zeP rfl rfl ?_
  refine zeP rfl rfl ?_
  refine zeKn (c := 2) rfl rfl rfl ?_
  refine zeAdd rfl ?_
  refine zeScr (k := 6 * c + 2) (by omega) hL rfl ?_
  refine zeP rfl rfl ?_
  refine zeP rfl rfl ?_
  refine zeKn (c := 3) rfl rfl rfl ?_
  refine zeAdd rfl ?_
  refine zeScr (k := 6 * c + 3) (by omega) hL rfl ?_
  refine zeP rfl rfl ?_
  refine zeCF rfl rfl rfl rfl rfl rfl b1 (by omega) ?_
  dsimp only [Option.toList, List.cons_append, List.nil_append]
  refine zeP rfl rfl ?_
  refine zeP rfl rfl ?_
  refine zeP rfl rfl ?_
  refine zeP rfl rfl ?_
  refine zeKn (c := 1) rfl rfl rfl ?_
  refine zeAdd rfl ?_
  refine zeScr (k := 6 * c + 1) (by omega) hL rfl ?_
  refine zeP rfl rfl ?_
  refine zeP rfl rfl ?_
  refine zeKn (c := 2) rfl rfl rfl ?_
  refine zeAdd rfl ?_
  refine zeScr (k := 6 * c + 2) (by omega) hL rfl ?_
  refine zeP rfl rfl ?_
  refine zeP rfl rfl ?_
  refine zeKn (c := 3) rfl rfl rfl ?_
  refine zeAdd rfl ?_
  refine zeScr (k := 6 * c + 3) (by omega) hL rfl ?_
  refine zeCF rfl rfl rfl rfl rfl rfl b2 (by omega) ?_
  dsimp only [Option.toList, List.cons_append, List.nil_append]
  refine zeP rfl rfl ?_
  refine zeP rfl rfl ?_
  exact kk
set_option maxRecDepth 100000 in
theorem lc_step {c : Nat} {x5 x6 : Option Value} (h : LI m) (hc : 6 * c + 6 ≤ L) (hL : L ≤ 3072) : LC L xs c 667 x5 x6 m yy := by
  obtain ⟨v1, m1, yy1, ⟨xi, xf⟩, yg, b1⟩ := hp_step (σ := zsig L xs) (yy := yy) (t := (xs (6 * c + 1))) h.1
  obtain ⟨v2, m2, ⟨q1, q2, q3, q4⟩, b2⟩ := rr_step (σ := zsig L xs) (yy := yy1) (t := (xs (6 * c + 1))) (h.2.1.fg xf.g)
  refine ⟨m2, yy1, some (.int v1), some (.int v2), h.two xi xf q2 q1 q3 q4, yg, fun o M' kk => ?_⟩
  refine zeP rfl rfl ?_
  refine zeP rfl rfl ?_
  refine zeP rfl rfl ?_
  refine zeKn (c := 1) rfl rfl rfl ?_
  refine zeAdd rfl ?_
  refine zeScr (k := 6 * c + 1) (by omega) hL rfl ?_
  refine zeP rfl rfl ?_
  refine zeCF rfl rfl rfl rfl rfl rfl b1 (by omega) ?_
  dsimp only [Option.toList, List.cons_append, List.nil_append]
  refine zeP rfl rfl ?_
  refine zeP rfl rfl ?_
  refine zeP rfl rfl ?_
  refine zeP rfl rfl ?_
  refine zeKn (c := 1) rfl rfl rfl ?_
  refine zeAdd rfl ?_
  refine zeScr (k := 6 * c + 1) (by omega) hL rfl ?_
  refine zeCF rfl rfl rfl rfl rfl rfl b2 (by omega) ?_
  dsimp only [Option.toList, List.cons_append, List.nil_append]
  refine zeP rfl rfl ?_
  refine zeP rfl rfl ?_
  exact kk
set_option maxRecDepth 100000 in
theorem lc_run {c : Nat} {x5 x6 : Option Value} (h : LI m) (hc : 6 * c + 6 ≤ L) (hL : L ≤ 3072) : LC L xs c 695 x5 x6 m yy := by
  obtain ⟨v1, m1, yy1, ⟨xi, xf⟩, yg, b1⟩ := hp_run (σ := zsig L xs) (yy := yy) (n := (xs (6 * c + 1))) h.1
  obtain ⟨v2, m2, ⟨q1, q2, q3, q4⟩, b2⟩ := rr_run (σ := zsig L xs) (yy := yy1) (n := (xs (6 * c + 1))) (h.2.1.fg xf.g)
  refine ⟨m2, yy1, some (.int v1), some (.int v2), h.two xi xf q2 q1 q3 q4, yg, fun o M' kk => ?_⟩
  refine zeP rfl rfl ?_
  refine zeP rfl rfl ?_
  refine zeP rfl rfl ?_
  refine zeKn (c := 1) rfl rfl rfl ?_
  refine zeAdd rfl ?_
  refine zeScr (k := 6 * c + 1) (by omega) hL rfl ?_
  refine zeP rfl rfl ?_
  refine zeCF rfl rfl rfl rfl rfl rfl b1 (by omega) ?_
  dsimp only [Option.toList, List.cons_append, List.nil_append]
  refine zeP rfl rfl ?_
  refine zeP rfl rfl ?_
  refine zeP rfl rfl ?_
  refine zeP rfl rfl ?_
  refine zeKn (c := 1) rfl rfl rfl ?_
  refine zeAdd rfl ?_
  refine zeScr (k := 6 * c + 1) (by omega) hL rfl ?_
  refine zeCF rfl rfl rfl rfl rfl rfl b2 (by omega) ?_
  dsimp only [Option.toList, List.cons_append, List.nil_append]
  refine zeP rfl rfl ?_
  refine zeP rfl rfl ?_
  exact kk
set_option maxRecDepth 100000 in
theorem lc_chance {c : Nat} {x5 x6 : Option Value} (h : LI m) (hc : 6 * c + 6 ≤ L) (hL : L ≤ 3072) : LC L xs c 723 x5 x6 m yy := by
  obtain ⟨v1, m1, yy1, ⟨xi, xf⟩, yg, b1⟩ := hp_chance (σ := zsig L xs) (yy := yy) (n := (xs (6 * c + 1))) h.1
  obtain ⟨v2, m2, ⟨q1, q2, q3, q4⟩, b2⟩ := rr_chance (σ := zsig L xs) (yy := yy1) (n := (xs (6 * c + 1))) (h.2.1.fg xf.g)
  refine ⟨m2, yy1, some (.int v1), some (.int v2), h.two xi xf q2 q1 q3 q4, yg, fun o M' kk => ?_⟩
  refine zeP rfl rfl ?_
  refine zeP rfl rfl ?_
  refine zeP rfl rfl ?_
  refine zeKn (c := 1) rfl rfl rfl ?_
  refine zeAdd rfl ?_
  refine zeScr (k := 6 * c + 1) (by omega) hL rfl ?_
  refine zeP rfl rfl ?_
  refine zeCF rfl rfl rfl rfl rfl rfl b1 (by omega) ?_
  dsimp only [Option.toList, List.cons_append, List.nil_append]
  refine zeP rfl rfl ?_
  refine zeP rfl rfl ?_
  refine zeP rfl rfl ?_
  refine zeP rfl rfl ?_
  refine zeKn (c := 1) rfl rfl rfl ?_
  refine zeAdd rfl ?_
  refine zeScr (k := 6 * c + 1) (by omega) hL rfl ?_
  refine zeCF rfl rfl rfl rfl rfl rfl b2 (by omega) ?_
  dsimp only [Option.toList, List.cons_append, List.nil_append]
  refine zeP rfl rfl ?_
  refine zeP rfl rfl ?_
  exact kk
set_option maxRecDepth 100000 in
theorem lc_poke {c : Nat} {x5 x6 : Option Value} (h : LI m) (hc : 6 * c + 6 ≤ L) (hL : L ≤ 3072) : LC L xs c 751 x5 x6 m yy := by
  obtain ⟨v1, m1, yy1, ⟨xi, xf⟩, yg, b1⟩ := hp_poke (σ := zsig L xs) (yy := yy) (w := (xs (6 * c + 1))) (v := (xs (6 * c + 2))) h.1
  obtain ⟨v2, m2, ⟨q1, q2, q3, q4⟩, b2⟩ := rr_poke (σ := zsig L xs) (yy := yy1) (w := (xs (6 * c + 1))) (v := (xs (6 * c + 2))) (h.2.1.fg xf.g)
  refine ⟨m2, yy1, some (.int v1), some (.int v2), h.two xi xf q2 q1 q3 q4, yg, fun o M' kk => ?_⟩
  refine zeP rfl rfl ?_
  refine zeP rfl rfl ?_
  refine zeP rfl rfl ?_
  refine zeKn (c := 1) rfl rfl rfl ?_
  refine zeAdd rfl ?_
  refine zeScr (k := 6 * c + 1) (by omega) hL rfl ?_
  refine zeP rfl rfl ?_
  refine zeP rfl rfl ?_
  refine zeKn (c := 2) rfl rfl rfl ?_
  refine zeAdd rfl ?_
  refine zeScr (k := 6 * c + 2) (by omega) hL rfl ?_
  refine zeP rfl rfl ?_
  refine zeCF rfl rfl rfl rfl rfl rfl b1 (by omega) ?_
  dsimp only [Option.toList, List.cons_append, List.nil_append]
  refine zeP rfl rfl ?_
  refine zeP rfl rfl ?_
  refine zeP rfl rfl ?_
  refine zeP rfl rfl ?_
  refine zeKn (c := 1) rfl rfl rfl ?_
  refine zeAdd rfl ?_
  refine zeScr (k := 6 * c + 1) (by omega) hL rfl ?_
  refine zeP rfl rfl ?_
  refine zeP rfl rfl ?_
  refine zeKn (c := 2) rfl rfl rfl ?_
  refine zeAdd rfl ?_
  refine zeScr (k := 6 * c + 2) (by omega) hL rfl ?_
  refine zeCF rfl rfl rfl rfl rfl rfl b2 (by omega) ?_
  dsimp only [Option.toList, List.cons_append, List.nil_append]
  refine zeP rfl rfl ?_
  refine zeP rfl rfl ?_
  exact kk
set_option maxRecDepth 100000 in
theorem lc_tune {c : Nat} {x5 x6 : Option Value} (h : LI m) (hc : 6 * c + 6 ≤ L) (hL : L ≤ 3072) : LC L xs c 791 x5 x6 m yy := by
  obtain ⟨v1, m1, yy1, ⟨xi, xf⟩, yg, b1⟩ := hp_tune (σ := zsig L xs) (yy := yy) (x := (xs (6 * c + 1))) (n := (xs (6 * c + 2))) (zsig_S (L := L) (xs := xs)) h.1
  obtain ⟨v2, m2, ⟨q1, q2, q3, q4⟩, b2⟩ := rr_tune (σ := zsig L xs) (yy := yy1) (x := (xs (6 * c + 1))) (n := (xs (6 * c + 2))) (h.2.1.fg xf.g)
  refine ⟨m2, yy1, some (.int v1), some (.int v2), h.two xi xf q2 q1 q3 q4, yg, fun o M' kk => ?_⟩
  refine zeP rfl rfl ?_
  refine zeP rfl rfl ?_
  refine zeP rfl rfl ?_
  refine zeKn (c := 1) rfl rfl rfl ?_
  refine zeAdd rfl ?_
  refine zeScr (k := 6 * c + 1) (by omega) hL rfl ?_
  refine zeP rfl rfl ?_
  refine zeP rfl rfl ?_
  refine zeKn (c := 2) rfl rfl rfl ?_
  refine zeAdd rfl ?_
  refine zeScr (k := 6 * c + 2) (by omega) hL rfl ?_
  refine zeP rfl rfl ?_
  refine zeCF rfl rfl rfl rfl rfl rfl b1 (by omega) ?_
  dsimp only [Option.toList, List.cons_append, List.nil_append]
  refine zeP rfl rfl ?_
  refine zeP rfl rfl ?_
  refine zeP rfl rfl ?_
  refine zeP rfl rfl ?_
  refine zeKn (c := 1) rfl rfl rfl ?_
  refine zeAdd rfl ?_
  refine zeScr (k := 6 * c + 1) (by omega) hL rfl ?_
  refine zeP rfl rfl ?_
  refine zeP rfl rfl ?_
  refine zeKn (c := 2) rfl rfl rfl ?_
  refine zeAdd rfl ?_
  refine zeScr (k := 6 * c + 2) (by omega) hL rfl ?_
  refine zeCF rfl rfl rfl rfl rfl rfl b2 (by omega) ?_
  dsimp only [Option.toList, List.cons_append, List.nil_append]
  refine zeP rfl rfl ?_
  refine zeP rfl rfl ?_
  exact kk
set_option maxRecDepth 100000 in
theorem lc_seed {c : Nat} {x5 x6 : Option Value} (h : LI m) (hc : 6 * c + 6 ≤ L) (hL : L ≤ 3072) : LC L xs c 831 x5 x6 m yy := by
  obtain ⟨v1, m1, ⟨xi, xf⟩, b1⟩ := dd_seed (L := L) (xs := xs) (yy := yy) (n := (xs (6 * c + 1))) h.1
  obtain ⟨v2, m2, ⟨q1, q2, q3, q4⟩, b2⟩ := rr_seed (σ := zsig L xs) (yy := yy) (n := (xs (6 * c + 1))) (h.2.1.fg xf.g)
  refine ⟨m2, yy, x5, x6, h.two xi xf q2 q1 q3 q4, YG.rf, fun o M' kk => ?_⟩
  refine zeP rfl rfl ?_
  refine zeP rfl rfl ?_
  refine zeP rfl rfl ?_
  refine zeKn (c := 1) rfl rfl rfl ?_
  refine zeAdd rfl ?_
  refine zeScr (k := 6 * c + 1) (by omega) hL rfl ?_
  refine zeCV rfl rfl rfl rfl zS00 rfl b1 (by omega) ?_
  dsimp only [Option.toList, List.cons_append, List.nil_append]
  refine zeP rfl rfl ?_
  refine zeP rfl rfl ?_
  refine zeP rfl rfl ?_
  refine zeP rfl rfl ?_
  refine zeKn (c := 1) rfl rfl rfl ?_
  refine zeAdd rfl ?_
  refine zeScr (k := 6 * c + 1) (by omega) hL rfl ?_
  refine zeCF rfl rfl rfl rfl rfl rfl b2 (by omega) ?_
  dsimp only [Option.toList, List.cons_append, List.nil_append]
  refine zeP rfl rfl ?_
  refine zeP rfl rfl ?_
  exact kk
set_option maxRecDepth 100000 in
theorem lc_due {c : Nat} {x5 x6 : Option Value} (h : LI m) (hc : 6 * c + 6 ≤ L) (hL : L ≤ 3072) : LC L xs c 856 x5 x6 m yy := by
  obtain ⟨v1, m1, yy1, ⟨xi, xf⟩, yg, b1⟩ := hp_due (σ := zsig L xs) (yy := yy) (t := (xs (6 * c + 1))) h.1
  obtain ⟨v2, m2, ⟨q1, q2, q3, q4⟩, b2⟩ := rr_due (σ := zsig L xs) (yy := yy1) (t := (xs (6 * c + 1))) (h.2.1.fg xf.g)
  refine ⟨m2, yy1, some (.int v1), some (.int v2), h.two xi xf q2 q1 q3 q4, yg, fun o M' kk => ?_⟩
  refine zeP rfl rfl ?_
  refine zeP rfl rfl ?_
  refine zeP rfl rfl ?_
  refine zeKn (c := 1) rfl rfl rfl ?_
  refine zeAdd rfl ?_
  refine zeScr (k := 6 * c + 1) (by omega) hL rfl ?_
  refine zeP rfl rfl ?_
  refine zeCF rfl rfl rfl rfl rfl rfl b1 (by omega) ?_
  dsimp only [Option.toList, List.cons_append, List.nil_append]
  refine zeP rfl rfl ?_
  refine zeP rfl rfl ?_
  refine zeP rfl rfl ?_
  refine zeP rfl rfl ?_
  refine zeKn (c := 1) rfl rfl rfl ?_
  refine zeAdd rfl ?_
  refine zeScr (k := 6 * c + 1) (by omega) hL rfl ?_
  refine zeCF rfl rfl rfl rfl rfl rfl b2 (by omega) ?_
  dsimp only [Option.toList, List.cons_append, List.nil_append]
  refine zeP rfl rfl ?_
  refine zeP rfl rfl ?_
  exact kk
set_option maxRecDepth 100000 in
theorem lc_quickest {c : Nat} {x5 x6 : Option Value} (h : LI m) (hc : 6 * c + 6 ≤ L) (hL : L ≤ 3072) : LC L xs c 884 x5 x6 m yy := by
  obtain ⟨v1, m1, yy1, ⟨xi, xf⟩, yg, b1⟩ := hp_quickest (σ := zsig L xs) (yy := yy) (x := (xs (6 * c + 1))) h.1
  obtain ⟨v2, m2, ⟨q1, q2, q3, q4⟩, b2⟩ := rr_quickest (σ := zsig L xs) (yy := yy1) (x := (xs (6 * c + 1))) (h.2.1.fg xf.g)
  refine ⟨m2, yy1, some (.int v1), some (.int v2), h.two xi xf q2 q1 q3 q4, yg, fun o M' kk => ?_⟩
  refine zeP rfl rfl ?_
  refine zeP rfl rfl ?_
  refine zeP rfl rfl ?_
  refine zeKn (c := 1) rfl rfl rfl ?_
  refine zeAdd rfl ?_
  refine zeScr (k := 6 * c + 1) (by omega) hL rfl ?_
  refine zeP rfl rfl ?_
  refine zeCF rfl rfl rfl rfl rfl rfl b1 (by omega) ?_
  dsimp only [Option.toList, List.cons_append, List.nil_append]
  refine zeP rfl rfl ?_
  refine zeP rfl rfl ?_
  refine zeP rfl rfl ?_
  refine zeP rfl rfl ?_
  refine zeKn (c := 1) rfl rfl rfl ?_
  refine zeAdd rfl ?_
  refine zeScr (k := 6 * c + 1) (by omega) hL rfl ?_
  refine zeCF rfl rfl rfl rfl rfl rfl b2 (by omega) ?_
  dsimp only [Option.toList, List.cons_append, List.nil_append]
  refine zeP rfl rfl ?_
  refine zeP rfl rfl ?_
  exact kk
set_option maxRecDepth 100000 in
theorem lc_plain {c : Nat} {x5 x6 : Option Value} (h : LI m) (hc : 6 * c + 6 ≤ L) (hL : L ≤ 3072) : LC L xs c 912 x5 x6 m yy := by
  obtain ⟨v1, m1, ⟨xi, xf⟩, b1⟩ := dd_plain (L := L) (xs := xs) (yy := yy) h.1
  obtain ⟨v2, m2, ⟨q1, q2, q3, q4⟩, b2⟩ := rr_plain (σ := zsig L xs) (yy := yy) (h.2.1.fg xf.g)
  refine ⟨m2, yy, x5, x6, h.two xi xf q2 q1 q3 q4, YG.rf, fun o M' kk => ?_⟩
  refine zeP rfl rfl ?_
  refine zeCV rfl rfl rfl rfl zS00 rfl b1 (by omega) ?_
  dsimp only [Option.toList, List.cons_append, List.nil_append]
  refine zeP rfl rfl ?_
  refine zeP rfl rfl ?_
  refine zeCF rfl rfl rfl rfl rfl rfl b2 (by omega) ?_
  dsimp only [Option.toList, List.cons_append, List.nil_append]
  refine zeP rfl rfl ?_
  refine zeP rfl rfl ?_
  exact kk
set_option maxRecDepth 100000 in
theorem lc_touches {c : Nat} {x5 x6 : Option Value} (h : LI m) (hc : 6 * c + 6 ≤ L) (hL : L ≤ 3072) : LC L xs c 925 x5 x6 m yy := by
  obtain ⟨v1, m1, yy1, ⟨xi, xf⟩, yg, b1⟩ := hp_touches (σ := zsig L xs) (yy := yy) (t := (xs (6 * c + 1))) (x := (xs (6 * c + 2))) h.1
  obtain ⟨v2, m2, ⟨q1, q2, q3, q4⟩, b2⟩ := rr_touches (σ := zsig L xs) (yy := yy1) (t := (xs (6 * c + 1))) (x := (xs (6 * c + 2))) (h.2.1.fg xf.g)
  refine ⟨m2, yy1, some (.int v1), some (.int v2), h.two xi xf q2 q1 q3 q4, yg, fun o M' kk => ?_⟩
  refine zeP rfl rfl ?_
  refine zeP rfl rfl ?_
  refine zeP rfl rfl ?_
  refine zeKn (c := 1) rfl rfl rfl ?_
  refine zeAdd rfl ?_
  refine zeScr (k := 6 * c + 1) (by omega) hL rfl ?_
  refine zeP rfl rfl ?_
  refine zeP rfl rfl ?_
  refine zeKn (c := 2) rfl rfl rfl ?_
  refine zeAdd rfl ?_
  refine zeScr (k := 6 * c + 2) (by omega) hL rfl ?_
  refine zeP rfl rfl ?_
  refine zeCF rfl rfl rfl rfl rfl rfl b1 (by omega) ?_
  dsimp only [Option.toList, List.cons_append, List.nil_append]
  refine zeP rfl rfl ?_
  refine zeP rfl rfl ?_
  refine zeP rfl rfl ?_
  refine zeP rfl rfl ?_
  refine zeKn (c := 1) rfl rfl rfl ?_
  refine zeAdd rfl ?_
  refine zeScr (k := 6 * c + 1) (by omega) hL rfl ?_
  refine zeP rfl rfl ?_
  refine zeP rfl rfl ?_
  refine zeKn (c := 2) rfl rfl rfl ?_
  refine zeAdd rfl ?_
  refine zeScr (k := 6 * c + 2) (by omega) hL rfl ?_
  refine zeCF rfl rfl rfl rfl rfl rfl b2 (by omega) ?_
  dsimp only [Option.toList, List.cons_append, List.nil_append]
  refine zeP rfl rfl ?_
  refine zeP rfl rfl ?_
  exact kk
set_option maxRecDepth 100000 in
theorem lc_rivals {c : Nat} {x5 x6 : Option Value} (h : LI m) (hc : 6 * c + 6 ≤ L) (hL : L ≤ 3072) : LC L xs c 965 x5 x6 m yy := by
  obtain ⟨v1, m1, yy1, ⟨xi, xf⟩, yg, b1⟩ := hp_rivals (σ := zsig L xs) (yy := yy) (t := (xs (6 * c + 1))) (u := (xs (6 * c + 2))) h.1
  obtain ⟨v2, m2, ⟨q1, q2, q3, q4⟩, b2⟩ := rr_rivals (σ := zsig L xs) (yy := yy1) (t := (xs (6 * c + 1))) (u := (xs (6 * c + 2))) (h.2.1.fg xf.g)
  refine ⟨m2, yy1, some (.int v1), some (.int v2), h.two xi xf q2 q1 q3 q4, yg, fun o M' kk => ?_⟩
  refine zeP rfl rfl ?_
  refine zeP rfl rfl ?_
  refine zeP rfl rfl ?_
  refine zeKn (c := 1) rfl rfl rfl ?_
  refine zeAdd rfl ?_
  refine zeScr (k := 6 * c + 1) (by omega) hL rfl ?_
  refine zeP rfl rfl ?_
  refine zeP rfl rfl ?_
  refine zeKn (c := 2) rfl rfl rfl ?_
  refine zeAdd rfl ?_
  refine zeScr (k := 6 * c + 2) (by omega) hL rfl ?_
  refine zeP rfl rfl ?_
  refine zeCF rfl rfl rfl rfl rfl rfl b1 (by omega) ?_
  dsimp only [Option.toList, List.cons_append, List.nil_append]
  refine zeP rfl rfl ?_
  refine zeP rfl rfl ?_
  refine zeP rfl rfl ?_
  refine zeP rfl rfl ?_
  refine zeKn (c := 1) rfl rfl rfl ?_
  refine zeAdd rfl ?_
  refine zeScr (k := 6 * c + 1) (by omega) hL rfl ?_
  refine zeP rfl rfl ?_
  refine zeP rfl rfl ?_
  refine zeKn (c := 2) rfl rfl rfl ?_
  refine zeAdd rfl ?_
  refine zeScr (k := 6 * c + 2) (by omega) hL rfl ?_
  refine zeCF rfl rfl rfl rfl rfl rfl b2 (by omega) ?_
  dsimp only [Option.toList, List.cons_append, List.nil_append]
  refine zeP rfl rfl ?_
  refine zeP rfl rfl ?_
  exact kk
set_option maxRecDepth 100000 in
theorem lc_nest {c : Nat} {x5 x6 : Option Value} (h : LI m) (hc : 6 * c + 6 ≤ L) (hL : L ≤ 3072) : LC L xs c 1005 x5 x6 m yy := by
  obtain ⟨v1, m1, yy1, ⟨xi, xf⟩, yg, b1⟩ := hp_nest (σ := zsig L xs) (yy := yy) (t := (xs (6 * c + 1))) h.1
  obtain ⟨v2, m2, ⟨q1, q2, q3, q4⟩, b2⟩ := rr_nest (σ := zsig L xs) (yy := yy1) (t := (xs (6 * c + 1))) (h.2.1.fg xf.g)
  refine ⟨m2, yy1, some (.int v1), some (.int v2), h.two xi xf q2 q1 q3 q4, yg, fun o M' kk => ?_⟩
  refine zeP rfl rfl ?_
  refine zeP rfl rfl ?_
  refine zeP rfl rfl ?_
  refine zeKn (c := 1) rfl rfl rfl ?_
  refine zeAdd rfl ?_
  refine zeScr (k := 6 * c + 1) (by omega) hL rfl ?_
  refine zeP rfl rfl ?_
  refine zeCF rfl rfl rfl rfl rfl rfl b1 (by omega) ?_
  dsimp only [Option.toList, List.cons_append, List.nil_append]
  refine zeP rfl rfl ?_
  refine zeP rfl rfl ?_
  refine zeP rfl rfl ?_
  refine zeP rfl rfl ?_
  refine zeKn (c := 1) rfl rfl rfl ?_
  refine zeAdd rfl ?_
  refine zeScr (k := 6 * c + 1) (by omega) hL rfl ?_
  refine zeCF rfl rfl rfl rfl rfl rfl b2 (by omega) ?_
  dsimp only [Option.toList, List.cons_append, List.nil_append]
  refine zeP rfl rfl ?_
  refine zeP rfl rfl ?_
  exact kk
set_option maxRecDepth 100000 in
theorem lc_parts {c : Nat} {x5 x6 : Option Value} (h : LI m) (hc : 6 * c + 6 ≤ L) (hL : L ≤ 3072) : LC L xs c 1033 x5 x6 m yy := by
  obtain ⟨v1, m1, yy1, ⟨xi, xf⟩, yg, b1⟩ := hp_parts (σ := zsig L xs) (yy := yy) (t := (xs (6 * c + 1))) h.1
  obtain ⟨v2, m2, ⟨q1, q2, q3, q4⟩, b2⟩ := rr_parts (σ := zsig L xs) (yy := yy1) (t := (xs (6 * c + 1))) (h.2.1.fg xf.g)
  refine ⟨m2, yy1, some (.int v1), some (.int v2), h.two xi xf q2 q1 q3 q4, yg, fun o M' kk => ?_⟩
  refine zeP rfl rfl ?_
  refine zeP rfl rfl ?_
  refine zeP rfl rfl ?_
  refine zeKn (c := 1) rfl rfl rfl ?_
  refine zeAdd rfl ?_
  refine zeScr (k := 6 * c + 1) (by omega) hL rfl ?_
  refine zeP rfl rfl ?_
  refine zeCF rfl rfl rfl rfl rfl rfl b1 (by omega) ?_
  dsimp only [Option.toList, List.cons_append, List.nil_append]
  refine zeP rfl rfl ?_
  refine zeP rfl rfl ?_
  refine zeP rfl rfl ?_
  refine zeP rfl rfl ?_
  refine zeKn (c := 1) rfl rfl rfl ?_
  refine zeAdd rfl ?_
  refine zeScr (k := 6 * c + 1) (by omega) hL rfl ?_
  refine zeCF rfl rfl rfl rfl rfl rfl b2 (by omega) ?_
  dsimp only [Option.toList, List.cons_append, List.nil_append]
  refine zeP rfl rfl ?_
  refine zeP rfl rfl ?_
  exact kk
set_option maxRecDepth 100000 in
theorem lc_serial {c : Nat} {x5 x6 : Option Value} (h : LI m) (hc : 6 * c + 6 ≤ L) (hL : L ≤ 3072) : LC L xs c 1061 x5 x6 m yy := by
  obtain ⟨v1, m1, ⟨xi, xf⟩, b1⟩ := dd_serial (L := L) (xs := xs) (yy := yy) (k := (xs (6 * c + 1))) h.1
  obtain ⟨v2, m2, ⟨q1, q2, q3, q4⟩, b2⟩ := rr_serial (σ := zsig L xs) (yy := yy) (v := (xs (6 * c + 1))) (h.2.1.fg xf.g)
  refine ⟨m2, yy, x5, x6, h.two xi xf q2 q1 q3 q4, YG.rf, fun o M' kk => ?_⟩
  refine zeP rfl rfl ?_
  refine zeP rfl rfl ?_
  refine zeP rfl rfl ?_
  refine zeKn (c := 1) rfl rfl rfl ?_
  refine zeAdd rfl ?_
  refine zeScr (k := 6 * c + 1) (by omega) hL rfl ?_
  refine zeCV rfl rfl rfl rfl zS00 rfl b1 (by omega) ?_
  dsimp only [Option.toList, List.cons_append, List.nil_append]
  refine zeP rfl rfl ?_
  refine zeP rfl rfl ?_
  refine zeP rfl rfl ?_
  refine zeP rfl rfl ?_
  refine zeKn (c := 1) rfl rfl rfl ?_
  refine zeAdd rfl ?_
  refine zeScr (k := 6 * c + 1) (by omega) hL rfl ?_
  refine zeCF rfl rfl rfl rfl rfl rfl b2 (by omega) ?_
  dsimp only [Option.toList, List.cons_append, List.nil_append]
  refine zeP rfl rfl ?_
  refine zeP rfl rfl ?_
  exact kk
set_option maxRecDepth 100000 in
theorem lc_output {c : Nat} {x5 x6 : Option Value} (h : LI m) (hc : 6 * c + 6 ≤ L) (hL : L ≤ 3072) : LC L xs c 1086 x5 x6 m yy := by
  obtain ⟨v1, m1, yy1, ⟨xi, xf⟩, yg, b1⟩ := hp_output (σ := zsig L xs) (yy := yy) (k := (xs (6 * c + 1))) (x := (xs (6 * c + 2))) h.1
  obtain ⟨v2, m2, ⟨q1, q2, q3, q4⟩, b2⟩ := rr_output (σ := zsig L xs) (yy := yy1) (k := (xs (6 * c + 1))) (x := (xs (6 * c + 2))) (h.2.1.fg xf.g)
  refine ⟨m2, yy1, some (.int v1), some (.int v2), h.two xi xf q2 q1 q3 q4, yg, fun o M' kk => ?_⟩
  refine zeP rfl rfl ?_
  refine zeP rfl rfl ?_
  refine zeP rfl rfl ?_
  refine zeKn (c := 1) rfl rfl rfl ?_
  refine zeAdd rfl ?_
  refine zeScr (k := 6 * c + 1) (by omega) hL rfl ?_
  refine zeP rfl rfl ?_
  refine zeP rfl rfl ?_
  refine zeKn (c := 2) rfl rfl rfl ?_
  refine zeAdd rfl ?_
  refine zeScr (k := 6 * c + 2) (by omega) hL rfl ?_
  refine zeP rfl rfl ?_
  refine zeCF rfl rfl rfl rfl rfl rfl b1 (by omega) ?_
  dsimp only [Option.toList, List.cons_append, List.nil_append]
  refine zeP rfl rfl ?_
  refine zeP rfl rfl ?_
  refine zeP rfl rfl ?_
  refine zeP rfl rfl ?_
  refine zeKn (c := 1) rfl rfl rfl ?_
  refine zeAdd rfl ?_
  refine zeScr (k := 6 * c + 1) (by omega) hL rfl ?_
  refine zeP rfl rfl ?_
  refine zeP rfl rfl ?_
  refine zeKn (c := 2) rfl rfl rfl ?_
  refine zeAdd rfl ?_
  refine zeScr (k := 6 * c + 2) (by omega) hL rfl ?_
  refine zeCF rfl rfl rfl rfl rfl rfl b2 (by omega) ?_
  dsimp only [Option.toList, List.cons_append, List.nil_append]
  refine zeP rfl rfl ?_
  refine zeP rfl rfl ?_
  exact kk
set_option maxRecDepth 100000 in
theorem lc_log {c : Nat} {x5 x6 : Option Value} (h : LI m) (hc : 6 * c + 6 ≤ L) (hL : L ≤ 3072) : LC L xs c 1126 x5 x6 m yy := by
  obtain ⟨v1, m1, yy1, ⟨xi, xf⟩, yg, b1⟩ := hp_log (σ := zsig L xs) (yy := yy) (k := (xs (6 * c + 1))) (x := (xs (6 * c + 2))) h.1
  obtain ⟨v2, m2, ⟨q1, q2, q3, q4⟩, b2⟩ := rr_log (σ := zsig L xs) (yy := yy1) (k := (xs (6 * c + 1))) (x := (xs (6 * c + 2))) (h.2.1.fg xf.g)
  refine ⟨m2, yy1, some (.int v1), some (.int v2), h.two xi xf q2 q1 q3 q4, yg, fun o M' kk => ?_⟩
  refine zeP rfl rfl ?_
  refine zeP rfl rfl ?_
  refine zeP rfl rfl ?_
  refine zeKn (c := 1) rfl rfl rfl ?_
  refine zeAdd rfl ?_
  refine zeScr (k := 6 * c + 1) (by omega) hL rfl ?_
  refine zeP rfl rfl ?_
  refine zeP rfl rfl ?_
  refine zeKn (c := 2) rfl rfl rfl ?_
  refine zeAdd rfl ?_
  refine zeScr (k := 6 * c + 2) (by omega) hL rfl ?_
  refine zeP rfl rfl ?_
  refine zeCF rfl rfl rfl rfl rfl rfl b1 (by omega) ?_
  dsimp only [Option.toList, List.cons_append, List.nil_append]
  refine zeP rfl rfl ?_
  refine zeP rfl rfl ?_
  refine zeP rfl rfl ?_
  refine zeP rfl rfl ?_
  refine zeKn (c := 1) rfl rfl rfl ?_
  refine zeAdd rfl ?_
  refine zeScr (k := 6 * c + 1) (by omega) hL rfl ?_
  refine zeP rfl rfl ?_
  refine zeP rfl rfl ?_
  refine zeKn (c := 2) rfl rfl rfl ?_
  refine zeAdd rfl ?_
  refine zeScr (k := 6 * c + 2) (by omega) hL rfl ?_
  refine zeCF rfl rfl rfl rfl rfl rfl b2 (by omega) ?_
  dsimp only [Option.toList, List.cons_append, List.nil_append]
  refine zeP rfl rfl ?_
  refine zeP rfl rfl ?_
  exact kk
set_option maxRecDepth 100000 in
theorem lc_text {c : Nat} {x5 x6 : Option Value} (h : LI m) (hc : 6 * c + 6 ≤ L) (hL : L ≤ 3072) : LC L xs c 1166 x5 x6 m yy := by
  obtain ⟨v1, m1, yy1, ⟨xi, xf⟩, yg, b1⟩ := hp_text (σ := zsig L xs) (yy := yy) (t := (xs (6 * c + 1))) h.1
  obtain ⟨v2, m2, ⟨q1, q2, q3, q4⟩, b2⟩ := rr_text (σ := zsig L xs) (yy := yy1) (t := (xs (6 * c + 1))) (h.2.1.fg xf.g)
  refine ⟨m2, yy1, some (.int v1), some (.int v2), h.two xi xf q2 q1 q3 q4, yg, fun o M' kk => ?_⟩
  refine zeP rfl rfl ?_
  refine zeP rfl rfl ?_
  refine zeP rfl rfl ?_
  refine zeKn (c := 1) rfl rfl rfl ?_
  refine zeAdd rfl ?_
  refine zeScr (k := 6 * c + 1) (by omega) hL rfl ?_
  refine zeP rfl rfl ?_
  refine zeCF rfl rfl rfl rfl rfl rfl b1 (by omega) ?_
  dsimp only [Option.toList, List.cons_append, List.nil_append]
  refine zeP rfl rfl ?_
  refine zeP rfl rfl ?_
  refine zeP rfl rfl ?_
  refine zeP rfl rfl ?_
  refine zeKn (c := 1) rfl rfl rfl ?_
  refine zeAdd rfl ?_
  refine zeScr (k := 6 * c + 1) (by omega) hL rfl ?_
  refine zeCF rfl rfl rfl rfl rfl rfl b2 (by omega) ?_
  dsimp only [Option.toList, List.cons_append, List.nil_append]
  refine zeP rfl rfl ?_
  refine zeP rfl rfl ?_
  exact kk
set_option maxRecDepth 100000 in
theorem lc_octet {c : Nat} {x5 x6 : Option Value} (h : LI m) (hc : 6 * c + 6 ≤ L) (hL : L ≤ 3072) : LC L xs c 1194 x5 x6 m yy := by
  obtain ⟨v1, m1, ⟨xi, xf⟩, b1⟩ := dd_octet (L := L) (xs := xs) (yy := yy) (k := (xs (6 * c + 1))) h.1
  obtain ⟨v2, m2, ⟨q1, q2, q3, q4⟩, b2⟩ := rr_octet (σ := zsig L xs) (yy := yy) (k := (xs (6 * c + 1))) (h.2.1.fg xf.g)
  refine ⟨m2, yy, x5, x6, h.two xi xf q2 q1 q3 q4, YG.rf, fun o M' kk => ?_⟩
  refine zeP rfl rfl ?_
  refine zeP rfl rfl ?_
  refine zeP rfl rfl ?_
  refine zeKn (c := 1) rfl rfl rfl ?_
  refine zeAdd rfl ?_
  refine zeScr (k := 6 * c + 1) (by omega) hL rfl ?_
  refine zeCV rfl rfl rfl rfl zS00 rfl b1 (by omega) ?_
  dsimp only [Option.toList, List.cons_append, List.nil_append]
  refine zeP rfl rfl ?_
  refine zeP rfl rfl ?_
  refine zeP rfl rfl ?_
  refine zeP rfl rfl ?_
  refine zeKn (c := 1) rfl rfl rfl ?_
  refine zeAdd rfl ?_
  refine zeScr (k := 6 * c + 1) (by omega) hL rfl ?_
  refine zeCF rfl rfl rfl rfl rfl rfl b2 (by omega) ?_
  dsimp only [Option.toList, List.cons_append, List.nil_append]
  refine zeP rfl rfl ?_
  refine zeP rfl rfl ?_
  exact kk
set_option maxRecDepth 100000 in
theorem lc_image {c : Nat} {x5 x6 : Option Value} (h : LI m) (hc : 6 * c + 6 ≤ L) (hL : L ≤ 3072) : LC L xs c 1219 x5 x6 m yy := by
  obtain ⟨m1, ⟨xi, xf, x3⟩, b1⟩ := dd_image (L := L) (xs := xs) (yy := yy) h.1
  obtain ⟨m2, ⟨q1, q2, q3, q4⟩, b2⟩ := rr_image (σ := zsig L xs) (yy := yy) (h.2.1.fi xf)
  refine ⟨m2, yy, x5, x6, ⟨xi.lo q2, q1, (congrFun (q2 0 (by omega)) 5).trans ((xf 0 5 (by omega)).trans (h.2.2.1.trans ((xf 137 7 (by omega)).symm.trans q3.symm))), (congrFun (q2 0 (by omega)) 3).trans (x3.trans q4.symm)⟩, YG.rf, fun o M' kk => ?_⟩
  refine zeP rfl rfl ?_
  refine zeCV rfl rfl rfl rfl zS00 rfl b1 (by omega) ?_
  dsimp only [Option.toList, List.cons_append, List.nil_append]
  refine zeP rfl rfl ?_
  refine zeCF rfl rfl rfl rfl rfl rfl b2 (by omega) ?_
  dsimp only [Option.toList, List.cons_append, List.nil_append]
  refine zeP rfl rfl ?_
  exact kk
theorem back_v : (e_back m).1 = (bif zc1 .ne (m 0 3) then Int32.ofNat 1 else Int32.ofNat 0) := by
  unfold e_back
  cases zc1 .ne (m 0 3) <;> rfl
theorem q_back_v {W : Nat → Int32} : (q_back m W).1 = (bif zc1 .ne (m 137 4) then Int32.ofNat 1 else Int32.ofNat 0) := by
  have e4 : zm2 m 137 0 (Int32.ofNat 0) 137 4 = m 137 4 := zx_nk _ _ (by decide)
  unfold q_back
  rw [e4]
  cases zc1 .ne (m 137 4) <;> rfl
set_option maxRecDepth 100000 in
theorem lc_back {c : Nat} {x5 x6 : Option Value} (h : LI m) (hc : 6 * c + 6 ≤ L) (hL : L ≤ 3072) : LC L xs c 1230 x5 x6 m yy := by
  have e1 := (ec_back (σ := zsig L xs) (yy := yy) (m := m) h.1.2.2.1.1 h.1.2.2.1.2).up (h' := 19) (by omega)
  obtain ⟨xi, xf⟩ : XI (e_back m).2 ∧ FH m (e_back m).2 := back_x h.1
  have w1 := back_v (m := m)
  generalize hv1 : (e_back m).1 = v1 at e1 w1
  generalize (e_back m).2 = m1 at e1 xi xf
  have b1 := e1
  obtain ⟨m2, ⟨q1, q2, q3, q4⟩, b2⟩ := rr_back (σ := zsig L xs) (yy := yy) (h.2.1.fg xf.g)
  have hv : v1 = (q_back m1 (m1 138)).1 := by
    rw [w1, q_back_v, xf 137 4 (by omega), h.2.2.2]
  refine ⟨m2, yy, x5, x6, h.two xi xf q2 q1 q3 q4, YG.rf, fun o M' kk => ?_⟩
  refine zeP rfl rfl ?_
  refine zeCV rfl rfl rfl rfl zS00 rfl b1 (by omega) ?_
  dsimp only [Option.toList, List.cons_append, List.nil_append]
  refine zeP rfl rfl ?_
  refine zeCF rfl rfl rfl rfl rfl rfl b2 (by omega) ?_
  dsimp only [Option.toList, List.cons_append, List.nil_append]
  refine zeT2 rfl rfl (decide_eq_true hv) ?_
  exact kk
set_option maxRecDepth 100000 in
theorem lc_count {c : Nat} {x5 x6 : Option Value} (h : LI m) (hc : 6 * c + 6 ≤ L) (hL : L ≤ 3072) : LC L xs c 1243 x5 x6 m yy := by
  obtain ⟨v1, m1, ⟨xi, xf⟩, b1⟩ := dd_count (L := L) (xs := xs) (yy := yy) (x := (xs (6 * c + 1))) h.1
  obtain ⟨v2, m2, ⟨q1, q2, q3, q4⟩, b2⟩ := rr_count (σ := zsig L xs) (yy := yy) (x := (xs (6 * c + 1))) (h.2.1.fg xf.g)
  refine ⟨m2, yy, x5, x6, h.two xi xf q2 q1 q3 q4, YG.rf, fun o M' kk => ?_⟩
  refine zeP rfl rfl ?_
  refine zeP rfl rfl ?_
  refine zeP rfl rfl ?_
  refine zeKn (c := 1) rfl rfl rfl ?_
  refine zeAdd rfl ?_
  refine zeScr (k := 6 * c + 1) (by omega) hL rfl ?_
  refine zeCV rfl rfl rfl rfl zS00 rfl b1 (by omega) ?_
  dsimp only [Option.toList, List.cons_append, List.nil_append]
  refine zeP rfl rfl ?_
  refine zeP rfl rfl ?_
  refine zeP rfl rfl ?_
  refine zeP rfl rfl ?_
  refine zeKn (c := 1) rfl rfl rfl ?_
  refine zeAdd rfl ?_
  refine zeScr (k := 6 * c + 1) (by omega) hL rfl ?_
  refine zeCF rfl rfl rfl rfl rfl rfl b2 (by omega) ?_
  dsimp only [Option.toList, List.cons_append, List.nil_append]
  refine zeP rfl rfl ?_
  refine zeP rfl rfl ?_
  exact kk
theorem feed_5 {a b c e f : Int32} {n : Nat} (h5 : m 0 5 = Int32.ofNat n) : (e_feed m a b c e f n).2 0 5 = (bif zc2 .le (Int32.ofNat (n + 20)) (Int32.ofNat 400) then Int32.ofNat (n + 20) else m 0 5) ∧ (e_feed m a b c e f n).1 = (bif zc2 .le (Int32.ofNat (n + 20)) (Int32.ofNat 400) then Int32.ofNat (n + 20) else -1) := by
  unfold e_feed
  cases zc2 .le (Int32.ofNat (n + 20)) (Int32.ofNat 400) with
  | true =>
    dsimp only [cond_true]
    exact ⟨feed1_5, rfl⟩
  | false => exact ⟨rfl, rfl⟩
set_option maxRecDepth 100000 in
theorem lc_feed {c : Nat} {x5 x6 : Option Value} (h : LI m) (hc : 6 * c + 6 ≤ L) (hL : L ≤ 3072) : LC L xs c 192 x5 x6 m yy := by
  have h0 := h.1.2.2.2.1
  have e1 := (ec_feed (σ := zsig L xs) (yy := yy) (m := m) (a := (xs (6 * c + 1))) (b := (xs (6 * c + 2))) (c := (xs (6 * c + 3))) (e := (xs (6 * c + 4))) (f := (xs (6 * c + 5))) (n := mv m 0 5) h0.1 h0.2).up (h' := 19) (by omega)
  have x1 : XI (e_feed m (xs (6 * c + 1)) (xs (6 * c + 2)) (xs (6 * c + 3)) (xs (6 * c + 4)) (xs (6 * c + 5)) (mv m 0 5)).2 ∧ FG m (e_feed m (xs (6 * c + 1)) (xs (6 * c + 2)) (xs (6 * c + 3)) (xs (6 * c + 4)) (xs (6 * c + 5)) (mv m 0 5)).2 := feed_x (a := (xs (6 * c + 1))) (b := (xs (6 * c + 2))) (c := (xs (6 * c + 3))) (e := (xs (6 * c + 4))) (f := (xs (6 * c + 5))) h.1 h0.2
  have z1 := feed_5 (a := (xs (6 * c + 1))) (b := (xs (6 * c + 2))) (c := (xs (6 * c + 3))) (e := (xs (6 * c + 4))) (f := (xs (6 * c + 5))) h0.1
  rw [z1.2] at e1
  have z2 := z1.1
  generalize (e_feed m (xs (6 * c + 1)) (xs (6 * c + 2)) (xs (6 * c + 3)) (xs (6 * c + 4)) (xs (6 * c + 5)) (mv m 0 5)).2 = m1 at e1 x1 z2
  obtain ⟨xi, xf⟩ : XI m1 ∧ FG m m1 := x1
  have hT : m1 137 7 = Int32.ofNat (mv m 0 5) := (xf 137 7 (by omega)).trans (h.2.2.1.symm.trans h0.1)
  obtain ⟨m2, ⟨q1, q2, q3, q4⟩, b2⟩ := rr_feed (σ := zsig L xs) (yy := yy) (a := (xs (6 * c + 1))) (b := (xs (6 * c + 2))) (c := (xs (6 * c + 3))) (e := (xs (6 * c + 4))) (f := (xs (6 * c + 5))) (h.2.1.fg xf) hT h0.2
  refine ⟨m2, yy, x5, x6, ⟨xi.lo q2, q1, ?_, h.fl xf q2 q4⟩, YG.rf, fun o M' kk => ?_⟩
  · refine (congrFun (q2 0 (by omega)) 5).trans (z2.trans (Eq.trans ?_ q3.symm))
    rw [hT, h0.1]
  · refine zeP rfl rfl ?_
    refine zeP rfl rfl ?_
    refine zeP rfl rfl ?_
    refine zeKn (c := 1) rfl rfl rfl ?_
    refine zeAdd rfl ?_
    refine zeScr (k := 6 * c + 1) (by omega) hL rfl ?_
    refine zeP rfl rfl ?_
    refine zeP rfl rfl ?_
    refine zeKn (c := 2) rfl rfl rfl ?_
    refine zeAdd rfl ?_
    refine zeScr (k := 6 * c + 2) (by omega) hL rfl ?_
    refine zeP rfl rfl ?_
    refine zeP rfl rfl ?_
    refine zeKn (c := 3) rfl rfl rfl ?_
    refine zeAdd rfl ?_
    refine zeScr (k := 6 * c + 3) (by omega) hL rfl ?_
    refine zeP rfl rfl ?_
    refine zeP rfl rfl ?_
    refine zeKn (c := 4) rfl rfl rfl ?_
    refine zeAdd rfl ?_
    refine zeScr (k := 6 * c + 4) (by omega) hL rfl ?_
    refine zeP rfl rfl ?_
    refine zeP rfl rfl ?_
    refine zeKn (c := 5) rfl rfl rfl ?_
    refine zeAdd rfl ?_
    refine zeScr (k := 6 * c + 5) (by omega) hL rfl ?_
    refine zeCV rfl rfl rfl rfl zS00 rfl e1 (by omega) ?_
    dsimp only [Option.toList, List.cons_append, List.nil_append]
    refine zeP rfl rfl ?_
    refine zeP rfl rfl ?_
    refine zeP rfl rfl ?_
    refine zeP rfl rfl ?_
    refine zeKn (c := 1) rfl rfl rfl ?_
    refine zeAdd rfl ?_
    refine zeScr (k := 6 * c + 1) (by omega) hL rfl ?_
    refine zeP rfl rfl ?_
    refine zeP rfl rfl ?_
    refine zeKn (c := 2) rfl rfl rfl ?_
    refine zeAdd rfl ?_
    refine zeScr (k := 6 * c + 2) (by omega) hL rfl ?_
    refine zeP rfl rfl ?_
    refine zeP rfl rfl ?_
    refine zeKn (c := 3) rfl rfl rfl ?_
    refine zeAdd rfl ?_
    refine zeScr (k := 6 * c + 3) (by omega) hL rfl ?_
    refine zeP rfl rfl ?_
    refine zeP rfl rfl ?_
    refine zeKn (c := 4) rfl rfl rfl ?_
    refine zeAdd rfl ?_
    refine zeScr (k := 6 * c + 4) (by omega) hL rfl ?_
    refine zeP rfl rfl ?_
    refine zeP rfl rfl ?_
    refine zeKn (c := 5) rfl rfl rfl ?_
    refine zeAdd rfl ?_
    refine zeScr (k := 6 * c + 5) (by omega) hL rfl ?_
    refine zeCF rfl rfl rfl rfl rfl rfl b2 (by omega) ?_
    dsimp only [Option.toList, List.cons_append, List.nil_append]
    refine zeP rfl rfl ?_
    refine zeP rfl rfl ?_
    exact kk
end ZLW
