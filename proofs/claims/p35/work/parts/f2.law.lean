/-! the law: what lies behind each of its calls -/
theorem zinB3 {k n : Nat} (hk : k < n) (hn : n ≤ 100000) : zoutB (Int32.ofNat k) n = false := by
  unfold zoutB
  rw [Bool.or_eq_false_iff]
  constructor
  · apply decide_eq_false
    rw [Int32.lt_iff_toInt_lt, Int32.toInt_zero, zoN (by omega)]
    omega
  · apply decide_eq_false
    rw [nv_on (by omega)]
    omega
theorem zlk_lt {L : List (Nat × Instr × Nat)} {b pc : Nat} (hL : L.all (fun e => Nat.ble (e.1 + 1) b) = true) (hb : Nat.ble b pc = true) : L.lookup pc = none := by
  induction L with
  | nil => rfl
  | cons e t ih =>
    rw [List.all_cons, Bool.and_eq_true] at hL
    have h1 := Nat.le_of_ble_eq_true hL.1
    have h2 := Nat.le_of_ble_eq_true hb
    obtain ⟨k, v⟩ := e
    have h3 : (pc == k) = false := beq_eq_false_iff_ne.mpr (by have : k + 1 ≤ b := h1; omega)
    rw [List.lookup_cons, h3]
    exact ih hL.2
theorem zlk_r {A B : List (Nat × Instr × Nat)} {pc : Nat} {r : Instr × Nat} (h1 : A.lookup pc = none) (h2 : B.lookup pc = some r) : (A ++ B).lookup pc = some r := by
  rw [List.lookup_append, h1, h2]
  rfl
theorem zlk_l {A B : List (Nat × Instr × Nat)} {pc : Nat} {r : Instr × Nat} (h : A.lookup pc = some r) : (A ++ B).lookup pc = some r := by
  rw [List.lookup_append, h]
  rfl
theorem zflw_0 {pc : Nat} {r : Instr × Nat} (hb : Nat.ble 0 pc = true) (h : zk_10_24_0.lookup pc = some r) : zfe 2024 pc = some r := by
  have e : zk_10_24.lookup pc = some r := zlk_l h
  exact e
theorem zflw_1 {pc : Nat} {r : Instr × Nat} (hb : Nat.ble 291 pc = true) (h : zk_10_24_1.lookup pc = some r) : zfe 2024 pc = some r := by
  have e : zk_10_24.lookup pc = some r := zlk_r (zlk_lt (b := 291) (by decide +kernel) (Nat.ble_eq_true_of_le (Nat.le_trans (by decide) (Nat.le_of_ble_eq_true hb)))) (zlk_l h)
  exact e
theorem zflw_2 {pc : Nat} {r : Instr × Nat} (hb : Nat.ble 441 pc = true) (h : zk_10_24_2.lookup pc = some r) : zfe 2024 pc = some r := by
  have e : zk_10_24.lookup pc = some r := zlk_r (zlk_lt (b := 291) (by decide +kernel) (Nat.ble_eq_true_of_le (Nat.le_trans (by decide) (Nat.le_of_ble_eq_true hb)))) (zlk_r (zlk_lt (b := 441) (by decide +kernel) (Nat.ble_eq_true_of_le (Nat.le_trans (by decide) (Nat.le_of_ble_eq_true hb)))) (zlk_l h))
  exact e
theorem zflw_3 {pc : Nat} {r : Instr × Nat} (hb : Nat.ble 587 pc = true) (h : zk_10_24_3.lookup pc = some r) : zfe 2024 pc = some r := by
  have e : zk_10_24.lookup pc = some r := zlk_r (zlk_lt (b := 291) (by decide +kernel) (Nat.ble_eq_true_of_le (Nat.le_trans (by decide) (Nat.le_of_ble_eq_true hb)))) (zlk_r (zlk_lt (b := 441) (by decide +kernel) (Nat.ble_eq_true_of_le (Nat.le_trans (by decide) (Nat.le_of_ble_eq_true hb)))) (zlk_r (zlk_lt (b := 587) (by decide +kernel) (Nat.ble_eq_true_of_le (Nat.le_trans (by decide) (Nat.le_of_ble_eq_true hb)))) (zlk_l h)))
  exact e
theorem zflw_4 {pc : Nat} {r : Instr × Nat} (hb : Nat.ble 734 pc = true) (h : zk_10_24_4.lookup pc = some r) : zfe 2024 pc = some r := by
  have e : zk_10_24.lookup pc = some r := zlk_r (zlk_lt (b := 291) (by decide +kernel) (Nat.ble_eq_true_of_le (Nat.le_trans (by decide) (Nat.le_of_ble_eq_true hb)))) (zlk_r (zlk_lt (b := 441) (by decide +kernel) (Nat.ble_eq_true_of_le (Nat.le_trans (by decide) (Nat.le_of_ble_eq_true hb)))) (zlk_r (zlk_lt (b := 587) (by decide +kernel) (Nat.ble_eq_true_of_le (Nat.le_trans (by decide) (Nat.le_of_ble_eq_true hb)))) (zlk_r (zlk_lt (b := 734) (by decide +kernel) (Nat.ble_eq_true_of_le (Nat.le_trans (by decide) (Nat.le_of_ble_eq_true hb)))) (zlk_l h))))
  exact e
theorem zflw_5 {pc : Nat} {r : Instr × Nat} (hb : Nat.ble 881 pc = true) (h : zk_10_24_5.lookup pc = some r) : zfe 2024 pc = some r := by
  have e : zk_10_24.lookup pc = some r := zlk_r (zlk_lt (b := 291) (by decide +kernel) (Nat.ble_eq_true_of_le (Nat.le_trans (by decide) (Nat.le_of_ble_eq_true hb)))) (zlk_r (zlk_lt (b := 441) (by decide +kernel) (Nat.ble_eq_true_of_le (Nat.le_trans (by decide) (Nat.le_of_ble_eq_true hb)))) (zlk_r (zlk_lt (b := 587) (by decide +kernel) (Nat.ble_eq_true_of_le (Nat.le_trans (by decide) (Nat.le_of_ble_eq_true hb)))) (zlk_r (zlk_lt (b := 734) (by decide +kernel) (Nat.ble_eq_true_of_le (Nat.le_trans (by decide) (Nat.le_of_ble_eq_true hb)))) (zlk_r (zlk_lt (b := 881) (by decide +kernel) (Nat.ble_eq_true_of_le (Nat.le_trans (by decide) (Nat.le_of_ble_eq_true hb)))) (zlk_l h)))))
  exact e
theorem zflw_6 {pc : Nat} {r : Instr × Nat} (hb : Nat.ble 1033 pc = true) (h : zk_10_24_6.lookup pc = some r) : zfe 2024 pc = some r := by
  have e : zk_10_24.lookup pc = some r := zlk_r (zlk_lt (b := 291) (by decide +kernel) (Nat.ble_eq_true_of_le (Nat.le_trans (by decide) (Nat.le_of_ble_eq_true hb)))) (zlk_r (zlk_lt (b := 441) (by decide +kernel) (Nat.ble_eq_true_of_le (Nat.le_trans (by decide) (Nat.le_of_ble_eq_true hb)))) (zlk_r (zlk_lt (b := 587) (by decide +kernel) (Nat.ble_eq_true_of_le (Nat.le_trans (by decide) (Nat.le_of_ble_eq_true hb)))) (zlk_r (zlk_lt (b := 734) (by decide +kernel) (Nat.ble_eq_true_of_le (Nat.le_trans (by decide) (Nat.le_of_ble_eq_true hb)))) (zlk_r (zlk_lt (b := 881) (by decide +kernel) (Nat.ble_eq_true_of_le (Nat.le_trans (by decide) (Nat.le_of_ble_eq_true hb)))) (zlk_r (zlk_lt (b := 1033) (by decide +kernel) (Nat.ble_eq_true_of_le (Nat.le_trans (by decide) (Nat.le_of_ble_eq_true hb)))) (zlk_l h))))))
  exact e
theorem zflw_7 {pc : Nat} {r : Instr × Nat} (hb : Nat.ble 1179 pc = true) (h : zk_10_24_7.lookup pc = some r) : zfe 2024 pc = some r := by
  have e : zk_10_24.lookup pc = some r := zlk_r (zlk_lt (b := 291) (by decide +kernel) (Nat.ble_eq_true_of_le (Nat.le_trans (by decide) (Nat.le_of_ble_eq_true hb)))) (zlk_r (zlk_lt (b := 441) (by decide +kernel) (Nat.ble_eq_true_of_le (Nat.le_trans (by decide) (Nat.le_of_ble_eq_true hb)))) (zlk_r (zlk_lt (b := 587) (by decide +kernel) (Nat.ble_eq_true_of_le (Nat.le_trans (by decide) (Nat.le_of_ble_eq_true hb)))) (zlk_r (zlk_lt (b := 734) (by decide +kernel) (Nat.ble_eq_true_of_le (Nat.le_trans (by decide) (Nat.le_of_ble_eq_true hb)))) (zlk_r (zlk_lt (b := 881) (by decide +kernel) (Nat.ble_eq_true_of_le (Nat.le_trans (by decide) (Nat.le_of_ble_eq_true hb)))) (zlk_r (zlk_lt (b := 1033) (by decide +kernel) (Nat.ble_eq_true_of_le (Nat.le_trans (by decide) (Nat.le_of_ble_eq_true hb)))) (zlk_r (zlk_lt (b := 1179) (by decide +kernel) (Nat.ble_eq_true_of_le (Nat.le_trans (by decide) (Nat.le_of_ble_eq_true hb)))) (h)))))))
  exact e
section ZLW
variable {L : Nat} {xs : Nat → Int32} {yy : (Nat → Nat → Int64) × Bool × Nat × Nat} {m : Nat → Nat → Int32}
theorem zeScr {d j pc k : Nat} {lv : zLv} {r : List Value} {M M' : zMem} {o : zO} (hk : k < L) (hL : L ≤ 3072) (hf : zfe j pc = some (.iaload, 1)) (kk : zEv (zsig L xs) d j (pc + 1) lv (.int (xs k) :: r) M o M') : zEv (zsig L xs) d j pc lv (.int (Int32.ofNat k) :: .ref 1000 :: r) M o M' := by
  refine zeS hf rfl ?_ kk
  have h4 : zoutB (Int32.ofNat k) L = false := zinB3 hk (by omega)
  have h5 : (Int32.ofNat k).toNatClampNeg = k := nv_on (by omega)
  have h1 : Nat.blt 1000 1000 = false := by decide
  have h2 : Nat.blt 1000 1005 = true := by decide
  have h3 : (1000 - 1000 : Nat) = 0 := by decide
  have h6 : zsig L xs 0 = (L, xs) := by unfold zsig; rfl
  simp only [zS, ziald, h1, cond_false, h2, h3, h6, h4, h5, Bool.not_false, Bool.and_self, cond_true]
/-- what a case of the law comes to -/
noncomputable def LC (L : Nat) (xs : Nat → Int32) (c pcK : Nat) (x5 x6 : Option Value) (m : Nat → Nat → Int32) (yy : (Nat → Nat → Int64) × Bool × Nat × Nat) : Prop := ∃ m' yy' y5 y6, LI m' ∧ YG yy yy' ∧ ∀ o M', zEv (zsig L xs) (19 + 1) 2024 1268 [some (.ref 1000), some (.ref 0), some (.ref 137), some (.ref 146), some (.int (Int32.ofNat (6 * c))), y5, y6] [] (zS1, m', yy') o M' → zEv (zsig L xs) (19 + 1) 2024 pcK [some (.ref 1000), some (.ref 0), some (.ref 137), some (.ref 146), some (.int (Int32.ofNat (6 * c))), x5, x6] [] (zS1, m, yy) o M'
set_option maxRecDepth 100000 in
theorem lc_feed {c : Nat} {x5 x6 : Option Value} (h : LI m) (hc : 6 * c + 6 ≤ L) (hL : L ≤ 3072) : LC L xs c 192 x5 x6 m yy := by
  obtain ⟨v1, m1, v2, m2, li, b1, b2⟩ := lr_feed (L := L) (xs := xs) (yy := yy) (a := (xs (6 * c + 1))) (b := (xs (6 * c + 2))) (c := (xs (6 * c + 3))) (e := (xs (6 * c + 4))) (f := (xs (6 * c + 5))) h
  refine ⟨m2, yy, x5, x6, li, YG.rf, fun o M' kk => ?_⟩
  refine zeP (zflw_0 rfl rfl) rfl ?_
  refine zeP (zflw_0 rfl rfl) rfl ?_
  refine zeP (zflw_0 rfl rfl) rfl ?_
  refine zeKn (c := 1) (zflw_0 rfl rfl) rfl rfl ?_
  refine zeAdd (zflw_0 rfl rfl) ?_
  refine zeScr (k := 6 * c + 1) (by omega) hL (zflw_0 rfl rfl) ?_
  refine zeP (zflw_0 rfl rfl) rfl ?_
  refine zeP (zflw_0 rfl rfl) rfl ?_
  refine zeKn (c := 2) (zflw_0 rfl rfl) rfl rfl ?_
  refine zeAdd (zflw_0 rfl rfl) ?_
  refine zeScr (k := 6 * c + 2) (by omega) hL (zflw_0 rfl rfl) ?_
  refine zeP (zflw_0 rfl rfl) rfl ?_
  refine zeP (zflw_0 rfl rfl) rfl ?_
  refine zeKn (c := 3) (zflw_0 rfl rfl) rfl rfl ?_
  refine zeAdd (zflw_0 rfl rfl) ?_
  refine zeScr (k := 6 * c + 3) (by omega) hL (zflw_0 rfl rfl) ?_
  refine zeP (zflw_0 rfl rfl) rfl ?_
  refine zeP (zflw_0 rfl rfl) rfl ?_
  refine zeKn (c := 4) (zflw_0 rfl rfl) rfl rfl ?_
  refine zeAdd (zflw_0 rfl rfl) ?_
  refine zeScr (k := 6 * c + 4) (by omega) hL (zflw_0 rfl rfl) ?_
  refine zeP (zflw_0 rfl rfl) rfl ?_
  refine zeP (zflw_0 rfl rfl) rfl ?_
  refine zeKn (c := 5) (zflw_0 rfl rfl) rfl rfl ?_
  refine zeAdd (zflw_0 rfl rfl) ?_
  refine zeScr (k := 6 * c + 5) (by omega) hL (zflw_0 rfl rfl) ?_
  refine zeCV (zflw_0 rfl rfl) rfl rfl rfl zS00 rfl b1 (by omega) ?_
  dsimp only [Option.toList, List.cons_append, List.nil_append]
  refine zeP (zflw_0 rfl rfl) rfl ?_
  refine zeP (zflw_0 rfl rfl) rfl ?_
  refine zeP (zflw_0 rfl rfl) rfl ?_
  refine zeP (zflw_0 rfl rfl) rfl ?_
  refine zeKn (c := 1) (zflw_0 rfl rfl) rfl rfl ?_
  refine zeAdd (zflw_0 rfl rfl) ?_
  refine zeScr (k := 6 * c + 1) (by omega) hL (zflw_0 rfl rfl) ?_
  refine zeP (zflw_0 rfl rfl) rfl ?_
  refine zeP (zflw_0 rfl rfl) rfl ?_
  refine zeKn (c := 2) (zflw_0 rfl rfl) rfl rfl ?_
  refine zeAdd (zflw_0 rfl rfl) ?_
  refine zeScr (k := 6 * c + 2) (by omega) hL (zflw_0 rfl rfl) ?_
  refine zeP (zflw_0 rfl rfl) rfl ?_
  refine zeP (zflw_0 rfl rfl) rfl ?_
  refine zeKn (c := 3) (zflw_0 rfl rfl) rfl rfl ?_
  refine zeAdd (zflw_0 rfl rfl) ?_
  refine zeScr (k := 6 * c + 3) (by omega) hL (zflw_0 rfl rfl) ?_
  refine zeP (zflw_0 rfl rfl) rfl ?_
  refine zeP (zflw_0 rfl rfl) rfl ?_
  refine zeKn (c := 4) (zflw_0 rfl rfl) rfl rfl ?_
  refine zeAdd (zflw_0 rfl rfl) ?_
  refine zeScr (k := 6 * c + 4) (by omega) hL (zflw_0 rfl rfl) ?_
  refine zeP (zflw_0 rfl rfl) rfl ?_
  refine zeP (zflw_0 rfl rfl) rfl ?_
  refine zeKn (c := 5) (zflw_0 rfl rfl) rfl rfl ?_
  refine zeAdd (zflw_0 rfl rfl) ?_
  refine zeScr (k := 6 * c + 5) (by omega) hL (zflw_0 rfl rfl) ?_
  refine zeCF (zflw_0 rfl rfl) rfl rfl rfl rfl rfl b2 (by omega) ?_
  dsimp only [Option.toList, List.cons_append, List.nil_append]
  refine zeP (zflw_0 rfl rfl) rfl ?_
  refine zeP (zflw_0 rfl rfl) rfl ?_
  exact kk
set_option maxRecDepth 100000 in
theorem lc_end {c : Nat} {x5 x6 : Option Value} (h : LI m) (hc : 6 * c + 6 ≤ L) (hL : L ≤ 3072) : LC L xs c 265 x5 x6 m yy := by
  obtain ⟨v1, m1, v2, m2, li, b1, b2⟩ := lr_end (L := L) (xs := xs) (yy := yy) (n := (xs (6 * c + 1))) h
  refine ⟨m2, yy, x5, x6, li, YG.rf, fun o M' kk => ?_⟩
  refine zeP (zflw_0 rfl rfl) rfl ?_
  refine zeP (zflw_0 rfl rfl) rfl ?_
  refine zeP (zflw_0 rfl rfl) rfl ?_
  refine zeKn (c := 1) (zflw_0 rfl rfl) rfl rfl ?_
  refine zeAdd (zflw_0 rfl rfl) ?_
  refine zeScr (k := 6 * c + 1) (by omega) hL (zflw_0 rfl rfl) ?_
  refine zeCV (zflw_0 rfl rfl) rfl rfl rfl zS00 rfl b1 (by omega) ?_
  dsimp only [Option.toList, List.cons_append, List.nil_append]
  refine zeP (zflw_0 rfl rfl) rfl ?_
  refine zeP (zflw_0 rfl rfl) rfl ?_
  refine zeP (zflw_0 rfl rfl) rfl ?_
  refine zeP (zflw_0 rfl rfl) rfl ?_
  refine zeKn (c := 1) (zflw_0 rfl rfl) rfl rfl ?_
  refine zeAdd (zflw_0 rfl rfl) ?_
  refine zeScr (k := 6 * c + 1) (by omega) hL (zflw_0 rfl rfl) ?_
  refine zeCF (zflw_0 rfl rfl) rfl rfl rfl rfl rfl b2 (by omega) ?_
  dsimp only [Option.toList, List.cons_append, List.nil_append]
  refine zeP (zflw_0 rfl rfl) rfl ?_
  refine zeP (zflw_0 rfl rfl) rfl ?_
  exact kk
set_option maxRecDepth 100000 in
theorem lc_machine {c : Nat} {x5 x6 : Option Value} (h : LI m) (hc : 6 * c + 6 ≤ L) (hL : L ≤ 3072) : LC L xs c 290 x5 x6 m yy := by
  obtain ⟨u0, m1, yy1, v2, m2, li, yg, b1, b2, hv⟩ := lr_machine (L := L) (xs := xs) (yy := yy) h
  refine ⟨m2, yy1, some (.int u0), some (.int v2), li, yg, fun o M' kk => ?_⟩
  refine zeP (zflw_0 rfl rfl) rfl ?_
  refine zeP (zflw_1 rfl rfl) rfl ?_
  refine zeCF (zflw_1 rfl rfl) rfl rfl rfl rfl rfl b1 (by omega) ?_
  dsimp only [Option.toList, List.cons_append, List.nil_append]
  refine zeP (zflw_1 rfl rfl) rfl ?_
  refine zeP (zflw_1 rfl rfl) rfl ?_
  refine zeCF (zflw_1 rfl rfl) rfl rfl rfl rfl rfl b2 (by omega) ?_
  dsimp only [Option.toList, List.cons_append, List.nil_append]
  refine zeP (zflw_1 rfl rfl) rfl ?_
  refine zeP (zflw_1 rfl rfl) rfl ?_
  exact kk
set_option maxRecDepth 100000 in
theorem lc_fault {c : Nat} {x5 x6 : Option Value} (h : LI m) (hc : 6 * c + 6 ≤ L) (hL : L ≤ 3072) : LC L xs c 306 x5 x6 m yy := by
  obtain ⟨v1, v2, m2, li, b1, b2, hv⟩ := lr_fault (L := L) (xs := xs) (yy := yy) h
  refine ⟨m2, yy, x5, x6, li, YG.rf, fun o M' kk => ?_⟩
  refine zeP (zflw_1 rfl rfl) rfl ?_
  refine zeCV (zflw_1 rfl rfl) rfl rfl rfl zS00 rfl b1 (by omega) ?_
  dsimp only [Option.toList, List.cons_append, List.nil_append]
  refine zeP (zflw_1 rfl rfl) rfl ?_
  refine zeP (zflw_1 rfl rfl) rfl ?_
  refine zeCF (zflw_1 rfl rfl) rfl rfl rfl rfl rfl b2 (by omega) ?_
  dsimp only [Option.toList, List.cons_append, List.nil_append]
  refine zeP (zflw_1 rfl rfl) rfl ?_
  refine zeP (zflw_1 rfl rfl) rfl ?_
  exact kk
set_option maxRecDepth 100000 in
theorem lc_thread {c : Nat} {x5 x6 : Option Value} (h : LI m) (hc : 6 * c + 6 ≤ L) (hL : L ≤ 3072) : LC L xs c 319 x5 x6 m yy := by
  obtain ⟨u0, yy1, v2, m2, li, yg, b1, b2, hv⟩ := lr_thread (L := L) (xs := xs) (yy := yy) (t := (xs (6 * c + 1))) (x := (xs (6 * c + 2))) h
  refine ⟨m2, yy1, some (.int u0), some (.int v2), li, yg, fun o M' kk => ?_⟩
  refine zeP (zflw_1 rfl rfl) rfl ?_
  refine zeP (zflw_1 rfl rfl) rfl ?_
  refine zeP (zflw_1 rfl rfl) rfl ?_
  refine zeKn (c := 1) (zflw_1 rfl rfl) rfl rfl ?_
  refine zeAdd (zflw_1 rfl rfl) ?_
  refine zeScr (k := 6 * c + 1) (by omega) hL (zflw_1 rfl rfl) ?_
  refine zeP (zflw_1 rfl rfl) rfl ?_
  refine zeP (zflw_1 rfl rfl) rfl ?_
  refine zeKn (c := 2) (zflw_1 rfl rfl) rfl rfl ?_
  refine zeAdd (zflw_1 rfl rfl) ?_
  refine zeScr (k := 6 * c + 2) (by omega) hL (zflw_1 rfl rfl) ?_
  refine zeP (zflw_1 rfl rfl) rfl ?_
  refine zeCF (zflw_1 rfl rfl) rfl rfl rfl rfl rfl b1 (by omega) ?_
  dsimp only [Option.toList, List.cons_append, List.nil_append]
  refine zeP (zflw_1 rfl rfl) rfl ?_
  refine zeP (zflw_1 rfl rfl) rfl ?_
  refine zeP (zflw_1 rfl rfl) rfl ?_
  refine zeP (zflw_1 rfl rfl) rfl ?_
  refine zeKn (c := 1) (zflw_1 rfl rfl) rfl rfl ?_
  refine zeAdd (zflw_1 rfl rfl) ?_
  refine zeScr (k := 6 * c + 1) (by omega) hL (zflw_1 rfl rfl) ?_
  refine zeP (zflw_1 rfl rfl) rfl ?_
  refine zeP (zflw_1 rfl rfl) rfl ?_
  refine zeKn (c := 2) (zflw_1 rfl rfl) rfl rfl ?_
  refine zeAdd (zflw_1 rfl rfl) ?_
  refine zeScr (k := 6 * c + 2) (by omega) hL (zflw_1 rfl rfl) ?_
  refine zeCF (zflw_1 rfl rfl) rfl rfl rfl rfl rfl b2 (by omega) ?_
  dsimp only [Option.toList, List.cons_append, List.nil_append]
  refine zeP (zflw_1 rfl rfl) rfl ?_
  refine zeP (zflw_1 rfl rfl) rfl ?_
  exact kk
set_option maxRecDepth 100000 in
theorem lc_leftOut {c : Nat} {x5 x6 : Option Value} (h : LI m) (hc : 6 * c + 6 ≤ L) (hL : L ≤ 3072) : LC L xs c 359 x5 x6 m yy := by
  obtain ⟨u0, yy1, v2, m2, li, yg, b1, b2, hv⟩ := lr_leftOut (L := L) (xs := xs) (yy := yy) (t := (xs (6 * c + 1))) (k := (xs (6 * c + 2))) h
  refine ⟨m2, yy1, some (.int u0), some (.int v2), li, yg, fun o M' kk => ?_⟩
  refine zeP (zflw_1 rfl rfl) rfl ?_
  refine zeP (zflw_1 rfl rfl) rfl ?_
  refine zeP (zflw_1 rfl rfl) rfl ?_
  refine zeKn (c := 1) (zflw_1 rfl rfl) rfl rfl ?_
  refine zeAdd (zflw_1 rfl rfl) ?_
  refine zeScr (k := 6 * c + 1) (by omega) hL (zflw_1 rfl rfl) ?_
  refine zeP (zflw_1 rfl rfl) rfl ?_
  refine zeP (zflw_1 rfl rfl) rfl ?_
  refine zeKn (c := 2) (zflw_1 rfl rfl) rfl rfl ?_
  refine zeAdd (zflw_1 rfl rfl) ?_
  refine zeScr (k := 6 * c + 2) (by omega) hL (zflw_1 rfl rfl) ?_
  refine zeP (zflw_1 rfl rfl) rfl ?_
  refine zeCF (zflw_1 rfl rfl) rfl rfl rfl rfl rfl b1 (by omega) ?_
  dsimp only [Option.toList, List.cons_append, List.nil_append]
  refine zeP (zflw_1 rfl rfl) rfl ?_
  refine zeP (zflw_1 rfl rfl) rfl ?_
  refine zeP (zflw_1 rfl rfl) rfl ?_
  refine zeP (zflw_1 rfl rfl) rfl ?_
  refine zeKn (c := 1) (zflw_1 rfl rfl) rfl rfl ?_
  refine zeAdd (zflw_1 rfl rfl) ?_
  refine zeScr (k := 6 * c + 1) (by omega) hL (zflw_1 rfl rfl) ?_
  refine zeP (zflw_1 rfl rfl) rfl ?_
  refine zeP (zflw_1 rfl rfl) rfl ?_
  refine zeKn (c := 2) (zflw_1 rfl rfl) rfl rfl ?_
  refine zeAdd (zflw_1 rfl rfl) ?_
  refine zeScr (k := 6 * c + 2) (by omega) hL (zflw_1 rfl rfl) ?_
  refine zeCF (zflw_1 rfl rfl) rfl rfl rfl rfl rfl b2 (by omega) ?_
  dsimp only [Option.toList, List.cons_append, List.nil_append]
  refine zeP (zflw_1 rfl rfl) rfl ?_
  refine zeP (zflw_1 rfl rfl) rfl ?_
  exact kk
set_option maxRecDepth 100000 in
theorem lc_blocks {c : Nat} {x5 x6 : Option Value} (h : LI m) (hc : 6 * c + 6 ≤ L) (hL : L ≤ 3072) : LC L xs c 399 x5 x6 m yy := by
  obtain ⟨u0, yy1, v2, m2, li, yg, b1, b2, hv⟩ := lr_blocks (L := L) (xs := xs) (yy := yy) (t := (xs (6 * c + 1))) (x := (xs (6 * c + 2))) h
  refine ⟨m2, yy1, some (.int u0), some (.int v2), li, yg, fun o M' kk => ?_⟩
  refine zeP (zflw_1 rfl rfl) rfl ?_
  refine zeP (zflw_1 rfl rfl) rfl ?_
  refine zeP (zflw_1 rfl rfl) rfl ?_
  refine zeKn (c := 1) (zflw_1 rfl rfl) rfl rfl ?_
  refine zeAdd (zflw_1 rfl rfl) ?_
  refine zeScr (k := 6 * c + 1) (by omega) hL (zflw_1 rfl rfl) ?_
  refine zeP (zflw_1 rfl rfl) rfl ?_
  refine zeP (zflw_1 rfl rfl) rfl ?_
  refine zeKn (c := 2) (zflw_1 rfl rfl) rfl rfl ?_
  refine zeAdd (zflw_1 rfl rfl) ?_
  refine zeScr (k := 6 * c + 2) (by omega) hL (zflw_1 rfl rfl) ?_
  refine zeP (zflw_1 rfl rfl) rfl ?_
  refine zeCF (zflw_1 rfl rfl) rfl rfl rfl rfl rfl b1 (by omega) ?_
  dsimp only [Option.toList, List.cons_append, List.nil_append]
  refine zeP (zflw_1 rfl rfl) rfl ?_
  refine zeP (zflw_1 rfl rfl) rfl ?_
  refine zeP (zflw_1 rfl rfl) rfl ?_
  refine zeP (zflw_1 rfl rfl) rfl ?_
  refine zeKn (c := 1) (zflw_1 rfl rfl) rfl rfl ?_
  refine zeAdd (zflw_1 rfl rfl) ?_
  refine zeScr (k := 6 * c + 1) (by omega) hL (zflw_1 rfl rfl) ?_
  refine zeP (zflw_1 rfl rfl) rfl ?_
  refine zeP (zflw_1 rfl rfl) rfl ?_
  refine zeKn (c := 2) (zflw_1 rfl rfl) rfl rfl ?_
  refine zeAdd (zflw_1 rfl rfl) ?_
  refine zeScr (k := 6 * c + 2) (by omega) hL (zflw_1 rfl rfl) ?_
  refine zeCF (zflw_1 rfl rfl) rfl rfl rfl rfl rfl b2 (by omega) ?_
  dsimp only [Option.toList, List.cons_append, List.nil_append]
  refine zeP (zflw_1 rfl rfl) rfl ?_
  refine zeP (zflw_1 rfl rfl) rfl ?_
  exact kk
set_option maxRecDepth 100000 in
theorem lc_fell {c : Nat} {x5 x6 : Option Value} (h : LI m) (hc : 6 * c + 6 ≤ L) (hL : L ≤ 3072) : LC L xs c 439 x5 x6 m yy := by
  obtain ⟨u0, yy1, v2, m2, li, yg, b1, b2, hv⟩ := lr_fell (L := L) (xs := xs) (yy := yy) (t := (xs (6 * c + 1))) (x := (xs (6 * c + 2))) h
  refine ⟨m2, yy1, some (.int u0), some (.int v2), li, yg, fun o M' kk => ?_⟩
  refine zeP (zflw_1 rfl rfl) rfl ?_
  refine zeP (zflw_1 rfl rfl) rfl ?_
  refine zeP (zflw_2 rfl rfl) rfl ?_
  refine zeKn (c := 1) (zflw_2 rfl rfl) rfl rfl ?_
  refine zeAdd (zflw_2 rfl rfl) ?_
  refine zeScr (k := 6 * c + 1) (by omega) hL (zflw_2 rfl rfl) ?_
  refine zeP (zflw_2 rfl rfl) rfl ?_
  refine zeP (zflw_2 rfl rfl) rfl ?_
  refine zeKn (c := 2) (zflw_2 rfl rfl) rfl rfl ?_
  refine zeAdd (zflw_2 rfl rfl) ?_
  refine zeScr (k := 6 * c + 2) (by omega) hL (zflw_2 rfl rfl) ?_
  refine zeP (zflw_2 rfl rfl) rfl ?_
  refine zeCF (zflw_2 rfl rfl) rfl rfl rfl rfl rfl b1 (by omega) ?_
  dsimp only [Option.toList, List.cons_append, List.nil_append]
  refine zeP (zflw_2 rfl rfl) rfl ?_
  refine zeP (zflw_2 rfl rfl) rfl ?_
  refine zeP (zflw_2 rfl rfl) rfl ?_
  refine zeP (zflw_2 rfl rfl) rfl ?_
  refine zeKn (c := 1) (zflw_2 rfl rfl) rfl rfl ?_
  refine zeAdd (zflw_2 rfl rfl) ?_
  refine zeScr (k := 6 * c + 1) (by omega) hL (zflw_2 rfl rfl) ?_
  refine zeP (zflw_2 rfl rfl) rfl ?_
  refine zeP (zflw_2 rfl rfl) rfl ?_
  refine zeKn (c := 2) (zflw_2 rfl rfl) rfl rfl ?_
  refine zeAdd (zflw_2 rfl rfl) ?_
  refine zeScr (k := 6 * c + 2) (by omega) hL (zflw_2 rfl rfl) ?_
  refine zeCF (zflw_2 rfl rfl) rfl rfl rfl rfl rfl b2 (by omega) ?_
  dsimp only [Option.toList, List.cons_append, List.nil_append]
  refine zeP (zflw_2 rfl rfl) rfl ?_
  refine zeP (zflw_2 rfl rfl) rfl ?_
  exact kk
set_option maxRecDepth 100000 in
theorem lc_word {c : Nat} {x5 x6 : Option Value} (h : LI m) (hc : 6 * c + 6 ≤ L) (hL : L ≤ 3072) : LC L xs c 479 x5 x6 m yy := by
  obtain ⟨u0, yy1, v2, m2, li, yg, b1, b2, hv⟩ := lr_word (L := L) (xs := xs) (yy := yy) (w := (xs (6 * c + 1))) h
  refine ⟨m2, yy1, some (.int u0), some (.int v2), li, yg, fun o M' kk => ?_⟩
  refine zeP (zflw_2 rfl rfl) rfl ?_
  refine zeP (zflw_2 rfl rfl) rfl ?_
  refine zeP (zflw_2 rfl rfl) rfl ?_
  refine zeKn (c := 1) (zflw_2 rfl rfl) rfl rfl ?_
  refine zeAdd (zflw_2 rfl rfl) ?_
  refine zeScr (k := 6 * c + 1) (by omega) hL (zflw_2 rfl rfl) ?_
  refine zeP (zflw_2 rfl rfl) rfl ?_
  refine zeCF (zflw_2 rfl rfl) rfl rfl rfl rfl rfl b1 (by omega) ?_
  dsimp only [Option.toList, List.cons_append, List.nil_append]
  refine zeP (zflw_2 rfl rfl) rfl ?_
  refine zeP (zflw_2 rfl rfl) rfl ?_
  refine zeP (zflw_2 rfl rfl) rfl ?_
  refine zeP (zflw_2 rfl rfl) rfl ?_
  refine zeKn (c := 1) (zflw_2 rfl rfl) rfl rfl ?_
  refine zeAdd (zflw_2 rfl rfl) ?_
  refine zeScr (k := 6 * c + 1) (by omega) hL (zflw_2 rfl rfl) ?_
  refine zeCF (zflw_2 rfl rfl) rfl rfl rfl rfl rfl b2 (by omega) ?_
  dsimp only [Option.toList, List.cons_append, List.nil_append]
  refine zeP (zflw_2 rfl rfl) rfl ?_
  refine zeP (zflw_2 rfl rfl) rfl ?_
  exact kk
set_option maxRecDepth 100000 in
theorem lc_sees {c : Nat} {x5 x6 : Option Value} (h : LI m) (hc : 6 * c + 6 ≤ L) (hL : L ≤ 3072) : LC L xs c 507 x5 x6 m yy := by
  obtain ⟨u0, yy1, v2, m2, li, yg, b1, b2, hv⟩ := lr_sees (L := L) (xs := xs) (yy := yy) (t := (xs (6 * c + 1))) (w := (xs (6 * c + 2))) h
  refine ⟨m2, yy1, some (.int u0), some (.int v2), li, yg, fun o M' kk => ?_⟩
  refine zeP (zflw_2 rfl rfl) rfl ?_
  refine zeP (zflw_2 rfl rfl) rfl ?_
  refine zeP (zflw_2 rfl rfl) rfl ?_
  refine zeKn (c := 1) (zflw_2 rfl rfl) rfl rfl ?_
  refine zeAdd (zflw_2 rfl rfl) ?_
  refine zeScr (k := 6 * c + 1) (by omega) hL (zflw_2 rfl rfl) ?_
  refine zeP (zflw_2 rfl rfl) rfl ?_
  refine zeP (zflw_2 rfl rfl) rfl ?_
  refine zeKn (c := 2) (zflw_2 rfl rfl) rfl rfl ?_
  refine zeAdd (zflw_2 rfl rfl) ?_
  refine zeScr (k := 6 * c + 2) (by omega) hL (zflw_2 rfl rfl) ?_
  refine zeP (zflw_2 rfl rfl) rfl ?_
  refine zeCF (zflw_2 rfl rfl) rfl rfl rfl rfl rfl b1 (by omega) ?_
  dsimp only [Option.toList, List.cons_append, List.nil_append]
  refine zeP (zflw_2 rfl rfl) rfl ?_
  refine zeP (zflw_2 rfl rfl) rfl ?_
  refine zeP (zflw_2 rfl rfl) rfl ?_
  refine zeP (zflw_2 rfl rfl) rfl ?_
  refine zeKn (c := 1) (zflw_2 rfl rfl) rfl rfl ?_
  refine zeAdd (zflw_2 rfl rfl) ?_
  refine zeScr (k := 6 * c + 1) (by omega) hL (zflw_2 rfl rfl) ?_
  refine zeP (zflw_2 rfl rfl) rfl ?_
  refine zeP (zflw_2 rfl rfl) rfl ?_
  refine zeKn (c := 2) (zflw_2 rfl rfl) rfl rfl ?_
  refine zeAdd (zflw_2 rfl rfl) ?_
  refine zeScr (k := 6 * c + 2) (by omega) hL (zflw_2 rfl rfl) ?_
  refine zeCF (zflw_2 rfl rfl) rfl rfl rfl rfl rfl b2 (by omega) ?_
  dsimp only [Option.toList, List.cons_append, List.nil_append]
  refine zeP (zflw_2 rfl rfl) rfl ?_
  refine zeP (zflw_2 rfl rfl) rfl ?_
  exact kk
set_option maxRecDepth 100000 in
theorem lc_lock {c : Nat} {x5 x6 : Option Value} (h : LI m) (hc : 6 * c + 6 ≤ L) (hL : L ≤ 3072) : LC L xs c 547 x5 x6 m yy := by
  obtain ⟨u0, yy1, v2, m2, li, yg, b1, b2, hv⟩ := lr_lock (L := L) (xs := xs) (yy := yy) (l := (xs (6 * c + 1))) (x := (xs (6 * c + 2))) h
  refine ⟨m2, yy1, some (.int u0), some (.int v2), li, yg, fun o M' kk => ?_⟩
  refine zeP (zflw_2 rfl rfl) rfl ?_
  refine zeP (zflw_2 rfl rfl) rfl ?_
  refine zeP (zflw_2 rfl rfl) rfl ?_
  refine zeKn (c := 1) (zflw_2 rfl rfl) rfl rfl ?_
  refine zeAdd (zflw_2 rfl rfl) ?_
  refine zeScr (k := 6 * c + 1) (by omega) hL (zflw_2 rfl rfl) ?_
  refine zeP (zflw_2 rfl rfl) rfl ?_
  refine zeP (zflw_2 rfl rfl) rfl ?_
  refine zeKn (c := 2) (zflw_2 rfl rfl) rfl rfl ?_
  refine zeAdd (zflw_2 rfl rfl) ?_
  refine zeScr (k := 6 * c + 2) (by omega) hL (zflw_2 rfl rfl) ?_
  refine zeP (zflw_2 rfl rfl) rfl ?_
  refine zeCF (zflw_2 rfl rfl) rfl rfl rfl rfl rfl b1 (by omega) ?_
  dsimp only [Option.toList, List.cons_append, List.nil_append]
  refine zeP (zflw_2 rfl rfl) rfl ?_
  refine zeP (zflw_2 rfl rfl) rfl ?_
  refine zeP (zflw_2 rfl rfl) rfl ?_
  refine zeP (zflw_2 rfl rfl) rfl ?_
  refine zeKn (c := 1) (zflw_2 rfl rfl) rfl rfl ?_
  refine zeAdd (zflw_2 rfl rfl) ?_
  refine zeScr (k := 6 * c + 1) (by omega) hL (zflw_2 rfl rfl) ?_
  refine zeP (zflw_2 rfl rfl) rfl ?_
  refine zeP (zflw_2 rfl rfl) rfl ?_
  refine zeKn (c := 2) (zflw_2 rfl rfl) rfl rfl ?_
  refine zeAdd (zflw_2 rfl rfl) ?_
  refine zeScr (k := 6 * c + 2) (by omega) hL (zflw_2 rfl rfl) ?_
  refine zeCF (zflw_2 rfl rfl) rfl rfl rfl rfl rfl b2 (by omega) ?_
  dsimp only [Option.toList, List.cons_append, List.nil_append]
  refine zeP (zflw_2 rfl rfl) rfl ?_
  refine zeP (zflw_2 rfl rfl) rfl ?_
  exact kk
set_option maxRecDepth 100000 in
theorem lc_term {c : Nat} {x5 x6 : Option Value} (h : LI m) (hc : 6 * c + 6 ≤ L) (hL : L ≤ 3072) : LC L xs c 587 x5 x6 m yy := by
  obtain ⟨u0, yy1, v2, m2, li, yg, b1, b2, hv⟩ := lr_term (L := L) (xs := xs) (yy := yy) (x := (xs (6 * c + 1))) h
  refine ⟨m2, yy1, some (.int u0), some (.int v2), li, yg, fun o M' kk => ?_⟩
  refine zeP (zflw_3 rfl rfl) rfl ?_
  refine zeP (zflw_3 rfl rfl) rfl ?_
  refine zeP (zflw_3 rfl rfl) rfl ?_
  refine zeKn (c := 1) (zflw_3 rfl rfl) rfl rfl ?_
  refine zeAdd (zflw_3 rfl rfl) ?_
  refine zeScr (k := 6 * c + 1) (by omega) hL (zflw_3 rfl rfl) ?_
  refine zeP (zflw_3 rfl rfl) rfl ?_
  refine zeCF (zflw_3 rfl rfl) rfl rfl rfl rfl rfl b1 (by omega) ?_
  dsimp only [Option.toList, List.cons_append, List.nil_append]
  refine zeP (zflw_3 rfl rfl) rfl ?_
  refine zeP (zflw_3 rfl rfl) rfl ?_
  refine zeP (zflw_3 rfl rfl) rfl ?_
  refine zeP (zflw_3 rfl rfl) rfl ?_
  refine zeKn (c := 1) (zflw_3 rfl rfl) rfl rfl ?_
  refine zeAdd (zflw_3 rfl rfl) ?_
  refine zeScr (k := 6 * c + 1) (by omega) hL (zflw_3 rfl rfl) ?_
  refine zeCF (zflw_3 rfl rfl) rfl rfl rfl rfl rfl b2 (by omega) ?_
  dsimp only [Option.toList, List.cons_append, List.nil_append]
  refine zeP (zflw_3 rfl rfl) rfl ?_
  refine zeP (zflw_3 rfl rfl) rfl ?_
  exact kk
set_option maxRecDepth 100000 in
theorem lc_deed {c : Nat} {x5 x6 : Option Value} (h : LI m) (hc : 6 * c + 6 ≤ L) (hL : L ≤ 3072) : LC L xs c 615 x5 x6 m yy := by
  obtain ⟨u0, yy1, v2, m2, li, yg, b1, b2, hv⟩ := lr_deed (L := L) (xs := xs) (yy := yy) (t := (xs (6 * c + 1))) (k := (xs (6 * c + 2))) (x := (xs (6 * c + 3))) h
  refine ⟨m2, yy1, some (.int u0), some (.int v2), li, yg, fun o M' kk => ?_⟩
  refine zeP (zflw_3 rfl rfl) rfl ?_
  refine zeP (zflw_3 rfl rfl) rfl ?_
  refine zeP (zflw_3 rfl rfl) rfl ?_
  refine zeKn (c := 1) (zflw_3 rfl rfl) rfl rfl ?_
  refine zeAdd (zflw_3 rfl rfl) ?_
  refine zeScr (k := 6 * c + 1) (by omega) hL (zflw_3 rfl rfl) ?_
  refine zeP (zflw_3 rfl rfl) rfl ?_
  refine zeP (zflw_3 rfl rfl) rfl ?_
  refine zeKn (c := 2) (zflw_3 rfl rfl) rfl rfl ?_
  refine zeAdd (zflw_3 rfl rfl) ?_
  refine zeScr (k := 6 * c + 2) (by omega) hL (zflw_3 rfl rfl) ?_
  refine zeP (zflw_3 rfl rfl) rfl ?_
  refine zeP (zflw_3 rfl rfl) rfl ?_
  refine zeKn (c := 3) (zflw_3 rfl rfl) rfl rfl ?_
  refine zeAdd (zflw_3 rfl rfl) ?_
  refine zeScr (k := 6 * c + 3) (by omega) hL (zflw_3 rfl rfl) ?_
  refine zeP (zflw_3 rfl rfl) rfl ?_
  refine zeCF (zflw_3 rfl rfl) rfl rfl rfl rfl rfl b1 (by omega) ?_
  dsimp only [Option.toList, List.cons_append, List.nil_append]
  refine zeP (zflw_3 rfl rfl) rfl ?_
  refine zeP (zflw_3 rfl rfl) rfl ?_
  refine zeP (zflw_3 rfl rfl) rfl ?_
  refine zeP (zflw_3 rfl rfl) rfl ?_
  refine zeKn (c := 1) (zflw_3 rfl rfl) rfl rfl ?_
  refine zeAdd (zflw_3 rfl rfl) ?_
  refine zeScr (k := 6 * c + 1) (by omega) hL (zflw_3 rfl rfl) ?_
  refine zeP (zflw_3 rfl rfl) rfl ?_
  refine zeP (zflw_3 rfl rfl) rfl ?_
  refine zeKn (c := 2) (zflw_3 rfl rfl) rfl rfl ?_
  refine zeAdd (zflw_3 rfl rfl) ?_
  refine zeScr (k := 6 * c + 2) (by omega) hL (zflw_3 rfl rfl) ?_
  refine zeP (zflw_3 rfl rfl) rfl ?_
  refine zeP (zflw_3 rfl rfl) rfl ?_
  refine zeKn (c := 3) (zflw_3 rfl rfl) rfl rfl ?_
  refine zeAdd (zflw_3 rfl rfl) ?_
  refine zeScr (k := 6 * c + 3) (by omega) hL (zflw_3 rfl rfl) ?_
  refine zeCF (zflw_3 rfl rfl) rfl rfl rfl rfl rfl b2 (by omega) ?_
  dsimp only [Option.toList, List.cons_append, List.nil_append]
  refine zeP (zflw_3 rfl rfl) rfl ?_
  refine zeP (zflw_3 rfl rfl) rfl ?_
  exact kk
set_option maxRecDepth 100000 in
theorem lc_step {c : Nat} {x5 x6 : Option Value} (h : LI m) (hc : 6 * c + 6 ≤ L) (hL : L ≤ 3072) : LC L xs c 667 x5 x6 m yy := by
  obtain ⟨u0, m1, yy1, v2, m2, li, yg, b1, b2, hv⟩ := lr_step (L := L) (xs := xs) (yy := yy) (t := (xs (6 * c + 1))) h
  refine ⟨m2, yy1, some (.int u0), some (.int v2), li, yg, fun o M' kk => ?_⟩
  refine zeP (zflw_3 rfl rfl) rfl ?_
  refine zeP (zflw_3 rfl rfl) rfl ?_
  refine zeP (zflw_3 rfl rfl) rfl ?_
  refine zeKn (c := 1) (zflw_3 rfl rfl) rfl rfl ?_
  refine zeAdd (zflw_3 rfl rfl) ?_
  refine zeScr (k := 6 * c + 1) (by omega) hL (zflw_3 rfl rfl) ?_
  refine zeP (zflw_3 rfl rfl) rfl ?_
  refine zeCF (zflw_3 rfl rfl) rfl rfl rfl rfl rfl b1 (by omega) ?_
  dsimp only [Option.toList, List.cons_append, List.nil_append]
  refine zeP (zflw_3 rfl rfl) rfl ?_
  refine zeP (zflw_3 rfl rfl) rfl ?_
  refine zeP (zflw_3 rfl rfl) rfl ?_
  refine zeP (zflw_3 rfl rfl) rfl ?_
  refine zeKn (c := 1) (zflw_3 rfl rfl) rfl rfl ?_
  refine zeAdd (zflw_3 rfl rfl) ?_
  refine zeScr (k := 6 * c + 1) (by omega) hL (zflw_3 rfl rfl) ?_
  refine zeCF (zflw_3 rfl rfl) rfl rfl rfl rfl rfl b2 (by omega) ?_
  dsimp only [Option.toList, List.cons_append, List.nil_append]
  refine zeP (zflw_3 rfl rfl) rfl ?_
  refine zeP (zflw_3 rfl rfl) rfl ?_
  exact kk
set_option maxRecDepth 100000 in
theorem lc_run {c : Nat} {x5 x6 : Option Value} (h : LI m) (hc : 6 * c + 6 ≤ L) (hL : L ≤ 3072) : LC L xs c 695 x5 x6 m yy := by
  obtain ⟨u0, m1, yy1, v2, m2, li, yg, b1, b2, hv⟩ := lr_run (L := L) (xs := xs) (yy := yy) (n := (xs (6 * c + 1))) h
  refine ⟨m2, yy1, some (.int u0), some (.int v2), li, yg, fun o M' kk => ?_⟩
  refine zeP (zflw_3 rfl rfl) rfl ?_
  refine zeP (zflw_3 rfl rfl) rfl ?_
  refine zeP (zflw_3 rfl rfl) rfl ?_
  refine zeKn (c := 1) (zflw_3 rfl rfl) rfl rfl ?_
  refine zeAdd (zflw_3 rfl rfl) ?_
  refine zeScr (k := 6 * c + 1) (by omega) hL (zflw_3 rfl rfl) ?_
  refine zeP (zflw_3 rfl rfl) rfl ?_
  refine zeCF (zflw_3 rfl rfl) rfl rfl rfl rfl rfl b1 (by omega) ?_
  dsimp only [Option.toList, List.cons_append, List.nil_append]
  refine zeP (zflw_3 rfl rfl) rfl ?_
  refine zeP (zflw_3 rfl rfl) rfl ?_
  refine zeP (zflw_3 rfl rfl) rfl ?_
  refine zeP (zflw_3 rfl rfl) rfl ?_
  refine zeKn (c := 1) (zflw_3 rfl rfl) rfl rfl ?_
  refine zeAdd (zflw_3 rfl rfl) ?_
  refine zeScr (k := 6 * c + 1) (by omega) hL (zflw_3 rfl rfl) ?_
  refine zeCF (zflw_3 rfl rfl) rfl rfl rfl rfl rfl b2 (by omega) ?_
  dsimp only [Option.toList, List.cons_append, List.nil_append]
  refine zeP (zflw_3 rfl rfl) rfl ?_
  refine zeP (zflw_3 rfl rfl) rfl ?_
  exact kk
set_option maxRecDepth 100000 in
theorem lc_chance {c : Nat} {x5 x6 : Option Value} (h : LI m) (hc : 6 * c + 6 ≤ L) (hL : L ≤ 3072) : LC L xs c 723 x5 x6 m yy := by
  obtain ⟨u0, m1, yy1, v2, m2, li, yg, b1, b2, hv⟩ := lr_chance (L := L) (xs := xs) (yy := yy) (n := (xs (6 * c + 1))) h
  refine ⟨m2, yy1, some (.int u0), some (.int v2), li, yg, fun o M' kk => ?_⟩
  refine zeP (zflw_3 rfl rfl) rfl ?_
  refine zeP (zflw_3 rfl rfl) rfl ?_
  refine zeP (zflw_3 rfl rfl) rfl ?_
  refine zeKn (c := 1) (zflw_3 rfl rfl) rfl rfl ?_
  refine zeAdd (zflw_3 rfl rfl) ?_
  refine zeScr (k := 6 * c + 1) (by omega) hL (zflw_3 rfl rfl) ?_
  refine zeP (zflw_3 rfl rfl) rfl ?_
  refine zeCF (zflw_3 rfl rfl) rfl rfl rfl rfl rfl b1 (by omega) ?_
  dsimp only [Option.toList, List.cons_append, List.nil_append]
  refine zeP (zflw_4 rfl rfl) rfl ?_
  refine zeP (zflw_4 rfl rfl) rfl ?_
  refine zeP (zflw_4 rfl rfl) rfl ?_
  refine zeP (zflw_4 rfl rfl) rfl ?_
  refine zeKn (c := 1) (zflw_4 rfl rfl) rfl rfl ?_
  refine zeAdd (zflw_4 rfl rfl) ?_
  refine zeScr (k := 6 * c + 1) (by omega) hL (zflw_4 rfl rfl) ?_
  refine zeCF (zflw_4 rfl rfl) rfl rfl rfl rfl rfl b2 (by omega) ?_
  dsimp only [Option.toList, List.cons_append, List.nil_append]
  refine zeP (zflw_4 rfl rfl) rfl ?_
  refine zeP (zflw_4 rfl rfl) rfl ?_
  exact kk
set_option maxRecDepth 100000 in
theorem lc_poke {c : Nat} {x5 x6 : Option Value} (h : LI m) (hc : 6 * c + 6 ≤ L) (hL : L ≤ 3072) : LC L xs c 751 x5 x6 m yy := by
  obtain ⟨u0, m1, yy1, v2, m2, li, yg, b1, b2, hv⟩ := lr_poke (L := L) (xs := xs) (yy := yy) (w := (xs (6 * c + 1))) (v := (xs (6 * c + 2))) h
  refine ⟨m2, yy1, some (.int u0), some (.int v2), li, yg, fun o M' kk => ?_⟩
  refine zeP (zflw_4 rfl rfl) rfl ?_
  refine zeP (zflw_4 rfl rfl) rfl ?_
  refine zeP (zflw_4 rfl rfl) rfl ?_
  refine zeKn (c := 1) (zflw_4 rfl rfl) rfl rfl ?_
  refine zeAdd (zflw_4 rfl rfl) ?_
  refine zeScr (k := 6 * c + 1) (by omega) hL (zflw_4 rfl rfl) ?_
  refine zeP (zflw_4 rfl rfl) rfl ?_
  refine zeP (zflw_4 rfl rfl) rfl ?_
  refine zeKn (c := 2) (zflw_4 rfl rfl) rfl rfl ?_
  refine zeAdd (zflw_4 rfl rfl) ?_
  refine zeScr (k := 6 * c + 2) (by omega) hL (zflw_4 rfl rfl) ?_
  refine zeP (zflw_4 rfl rfl) rfl ?_
  refine zeCF (zflw_4 rfl rfl) rfl rfl rfl rfl rfl b1 (by omega) ?_
  dsimp only [Option.toList, List.cons_append, List.nil_append]
  refine zeP (zflw_4 rfl rfl) rfl ?_
  refine zeP (zflw_4 rfl rfl) rfl ?_
  refine zeP (zflw_4 rfl rfl) rfl ?_
  refine zeP (zflw_4 rfl rfl) rfl ?_
  refine zeKn (c := 1) (zflw_4 rfl rfl) rfl rfl ?_
  refine zeAdd (zflw_4 rfl rfl) ?_
  refine zeScr (k := 6 * c + 1) (by omega) hL (zflw_4 rfl rfl) ?_
  refine zeP (zflw_4 rfl rfl) rfl ?_
  refine zeP (zflw_4 rfl rfl) rfl ?_
  refine zeKn (c := 2) (zflw_4 rfl rfl) rfl rfl ?_
  refine zeAdd (zflw_4 rfl rfl) ?_
  refine zeScr (k := 6 * c + 2) (by omega) hL (zflw_4 rfl rfl) ?_
  refine zeCF (zflw_4 rfl rfl) rfl rfl rfl rfl rfl b2 (by omega) ?_
  dsimp only [Option.toList, List.cons_append, List.nil_append]
  refine zeP (zflw_4 rfl rfl) rfl ?_
  refine zeP (zflw_4 rfl rfl) rfl ?_
  exact kk
set_option maxRecDepth 100000 in
theorem lc_tune {c : Nat} {x5 x6 : Option Value} (h : LI m) (hc : 6 * c + 6 ≤ L) (hL : L ≤ 3072) : LC L xs c 791 x5 x6 m yy := by
  obtain ⟨u0, m1, yy1, v2, m2, li, yg, b1, b2, hv⟩ := lr_tune (L := L) (xs := xs) (yy := yy) (x := (xs (6 * c + 1))) (n := (xs (6 * c + 2))) h
  refine ⟨m2, yy1, some (.int u0), some (.int v2), li, yg, fun o M' kk => ?_⟩
  refine zeP (zflw_4 rfl rfl) rfl ?_
  refine zeP (zflw_4 rfl rfl) rfl ?_
  refine zeP (zflw_4 rfl rfl) rfl ?_
  refine zeKn (c := 1) (zflw_4 rfl rfl) rfl rfl ?_
  refine zeAdd (zflw_4 rfl rfl) ?_
  refine zeScr (k := 6 * c + 1) (by omega) hL (zflw_4 rfl rfl) ?_
  refine zeP (zflw_4 rfl rfl) rfl ?_
  refine zeP (zflw_4 rfl rfl) rfl ?_
  refine zeKn (c := 2) (zflw_4 rfl rfl) rfl rfl ?_
  refine zeAdd (zflw_4 rfl rfl) ?_
  refine zeScr (k := 6 * c + 2) (by omega) hL (zflw_4 rfl rfl) ?_
  refine zeP (zflw_4 rfl rfl) rfl ?_
  refine zeCF (zflw_4 rfl rfl) rfl rfl rfl rfl rfl b1 (by omega) ?_
  dsimp only [Option.toList, List.cons_append, List.nil_append]
  refine zeP (zflw_4 rfl rfl) rfl ?_
  refine zeP (zflw_4 rfl rfl) rfl ?_
  refine zeP (zflw_4 rfl rfl) rfl ?_
  refine zeP (zflw_4 rfl rfl) rfl ?_
  refine zeKn (c := 1) (zflw_4 rfl rfl) rfl rfl ?_
  refine zeAdd (zflw_4 rfl rfl) ?_
  refine zeScr (k := 6 * c + 1) (by omega) hL (zflw_4 rfl rfl) ?_
  refine zeP (zflw_4 rfl rfl) rfl ?_
  refine zeP (zflw_4 rfl rfl) rfl ?_
  refine zeKn (c := 2) (zflw_4 rfl rfl) rfl rfl ?_
  refine zeAdd (zflw_4 rfl rfl) ?_
  refine zeScr (k := 6 * c + 2) (by omega) hL (zflw_4 rfl rfl) ?_
  refine zeCF (zflw_4 rfl rfl) rfl rfl rfl rfl rfl b2 (by omega) ?_
  dsimp only [Option.toList, List.cons_append, List.nil_append]
  refine zeP (zflw_4 rfl rfl) rfl ?_
  refine zeP (zflw_4 rfl rfl) rfl ?_
  exact kk
set_option maxRecDepth 100000 in
theorem lc_seed {c : Nat} {x5 x6 : Option Value} (h : LI m) (hc : 6 * c + 6 ≤ L) (hL : L ≤ 3072) : LC L xs c 831 x5 x6 m yy := by
  obtain ⟨v1, m1, v2, m2, li, b1, b2, hv⟩ := lr_seed (L := L) (xs := xs) (yy := yy) (n := (xs (6 * c + 1))) h
  refine ⟨m2, yy, x5, x6, li, YG.rf, fun o M' kk => ?_⟩
  refine zeP (zflw_4 rfl rfl) rfl ?_
  refine zeP (zflw_4 rfl rfl) rfl ?_
  refine zeP (zflw_4 rfl rfl) rfl ?_
  refine zeKn (c := 1) (zflw_4 rfl rfl) rfl rfl ?_
  refine zeAdd (zflw_4 rfl rfl) ?_
  refine zeScr (k := 6 * c + 1) (by omega) hL (zflw_4 rfl rfl) ?_
  refine zeCV (zflw_4 rfl rfl) rfl rfl rfl zS00 rfl b1 (by omega) ?_
  dsimp only [Option.toList, List.cons_append, List.nil_append]
  refine zeP (zflw_4 rfl rfl) rfl ?_
  refine zeP (zflw_4 rfl rfl) rfl ?_
  refine zeP (zflw_4 rfl rfl) rfl ?_
  refine zeP (zflw_4 rfl rfl) rfl ?_
  refine zeKn (c := 1) (zflw_4 rfl rfl) rfl rfl ?_
  refine zeAdd (zflw_4 rfl rfl) ?_
  refine zeScr (k := 6 * c + 1) (by omega) hL (zflw_4 rfl rfl) ?_
  refine zeCF (zflw_4 rfl rfl) rfl rfl rfl rfl rfl b2 (by omega) ?_
  dsimp only [Option.toList, List.cons_append, List.nil_append]
  refine zeP (zflw_4 rfl rfl) rfl ?_
  refine zeP (zflw_4 rfl rfl) rfl ?_
  exact kk
set_option maxRecDepth 100000 in
theorem lc_due {c : Nat} {x5 x6 : Option Value} (h : LI m) (hc : 6 * c + 6 ≤ L) (hL : L ≤ 3072) : LC L xs c 856 x5 x6 m yy := by
  obtain ⟨u0, m1, yy1, v2, m2, li, yg, b1, b2, hv⟩ := lr_due (L := L) (xs := xs) (yy := yy) (t := (xs (6 * c + 1))) h
  refine ⟨m2, yy1, some (.int u0), some (.int v2), li, yg, fun o M' kk => ?_⟩
  refine zeP (zflw_4 rfl rfl) rfl ?_
  refine zeP (zflw_4 rfl rfl) rfl ?_
  refine zeP (zflw_4 rfl rfl) rfl ?_
  refine zeKn (c := 1) (zflw_4 rfl rfl) rfl rfl ?_
  refine zeAdd (zflw_4 rfl rfl) ?_
  refine zeScr (k := 6 * c + 1) (by omega) hL (zflw_4 rfl rfl) ?_
  refine zeP (zflw_4 rfl rfl) rfl ?_
  refine zeCF (zflw_4 rfl rfl) rfl rfl rfl rfl rfl b1 (by omega) ?_
  dsimp only [Option.toList, List.cons_append, List.nil_append]
  refine zeP (zflw_4 rfl rfl) rfl ?_
  refine zeP (zflw_4 rfl rfl) rfl ?_
  refine zeP (zflw_4 rfl rfl) rfl ?_
  refine zeP (zflw_4 rfl rfl) rfl ?_
  refine zeKn (c := 1) (zflw_4 rfl rfl) rfl rfl ?_
  refine zeAdd (zflw_4 rfl rfl) ?_
  refine zeScr (k := 6 * c + 1) (by omega) hL (zflw_4 rfl rfl) ?_
  refine zeCF (zflw_4 rfl rfl) rfl rfl rfl rfl rfl b2 (by omega) ?_
  dsimp only [Option.toList, List.cons_append, List.nil_append]
  refine zeP (zflw_4 rfl rfl) rfl ?_
  refine zeP (zflw_5 rfl rfl) rfl ?_
  exact kk
set_option maxRecDepth 100000 in
theorem lc_quickest {c : Nat} {x5 x6 : Option Value} (h : LI m) (hc : 6 * c + 6 ≤ L) (hL : L ≤ 3072) : LC L xs c 884 x5 x6 m yy := by
  obtain ⟨u0, m1, yy1, v2, m2, li, yg, b1, b2, hv⟩ := lr_quickest (L := L) (xs := xs) (yy := yy) (x := (xs (6 * c + 1))) h
  refine ⟨m2, yy1, some (.int u0), some (.int v2), li, yg, fun o M' kk => ?_⟩
  refine zeP (zflw_5 rfl rfl) rfl ?_
  refine zeP (zflw_5 rfl rfl) rfl ?_
  refine zeP (zflw_5 rfl rfl) rfl ?_
  refine zeKn (c := 1) (zflw_5 rfl rfl) rfl rfl ?_
  refine zeAdd (zflw_5 rfl rfl) ?_
  refine zeScr (k := 6 * c + 1) (by omega) hL (zflw_5 rfl rfl) ?_
  refine zeP (zflw_5 rfl rfl) rfl ?_
  refine zeCF (zflw_5 rfl rfl) rfl rfl rfl rfl rfl b1 (by omega) ?_
  dsimp only [Option.toList, List.cons_append, List.nil_append]
  refine zeP (zflw_5 rfl rfl) rfl ?_
  refine zeP (zflw_5 rfl rfl) rfl ?_
  refine zeP (zflw_5 rfl rfl) rfl ?_
  refine zeP (zflw_5 rfl rfl) rfl ?_
  refine zeKn (c := 1) (zflw_5 rfl rfl) rfl rfl ?_
  refine zeAdd (zflw_5 rfl rfl) ?_
  refine zeScr (k := 6 * c + 1) (by omega) hL (zflw_5 rfl rfl) ?_
  refine zeCF (zflw_5 rfl rfl) rfl rfl rfl rfl rfl b2 (by omega) ?_
  dsimp only [Option.toList, List.cons_append, List.nil_append]
  refine zeP (zflw_5 rfl rfl) rfl ?_
  refine zeP (zflw_5 rfl rfl) rfl ?_
  exact kk
set_option maxRecDepth 100000 in
theorem lc_plain {c : Nat} {x5 x6 : Option Value} (h : LI m) (hc : 6 * c + 6 ≤ L) (hL : L ≤ 3072) : LC L xs c 912 x5 x6 m yy := by
  obtain ⟨v1, m1, v2, m2, li, b1, b2, hv⟩ := lr_plain (L := L) (xs := xs) (yy := yy) h
  refine ⟨m2, yy, x5, x6, li, YG.rf, fun o M' kk => ?_⟩
  refine zeP (zflw_5 rfl rfl) rfl ?_
  refine zeCV (zflw_5 rfl rfl) rfl rfl rfl zS00 rfl b1 (by omega) ?_
  dsimp only [Option.toList, List.cons_append, List.nil_append]
  refine zeP (zflw_5 rfl rfl) rfl ?_
  refine zeP (zflw_5 rfl rfl) rfl ?_
  refine zeCF (zflw_5 rfl rfl) rfl rfl rfl rfl rfl b2 (by omega) ?_
  dsimp only [Option.toList, List.cons_append, List.nil_append]
  refine zeP (zflw_5 rfl rfl) rfl ?_
  refine zeP (zflw_5 rfl rfl) rfl ?_
  exact kk
set_option maxRecDepth 100000 in
theorem lc_touches {c : Nat} {x5 x6 : Option Value} (h : LI m) (hc : 6 * c + 6 ≤ L) (hL : L ≤ 3072) : LC L xs c 925 x5 x6 m yy := by
  obtain ⟨u0, yy1, v2, m2, li, yg, b1, b2, hv⟩ := lr_touches (L := L) (xs := xs) (yy := yy) (t := (xs (6 * c + 1))) (x := (xs (6 * c + 2))) h
  refine ⟨m2, yy1, some (.int u0), some (.int v2), li, yg, fun o M' kk => ?_⟩
  refine zeP (zflw_5 rfl rfl) rfl ?_
  refine zeP (zflw_5 rfl rfl) rfl ?_
  refine zeP (zflw_5 rfl rfl) rfl ?_
  refine zeKn (c := 1) (zflw_5 rfl rfl) rfl rfl ?_
  refine zeAdd (zflw_5 rfl rfl) ?_
  refine zeScr (k := 6 * c + 1) (by omega) hL (zflw_5 rfl rfl) ?_
  refine zeP (zflw_5 rfl rfl) rfl ?_
  refine zeP (zflw_5 rfl rfl) rfl ?_
  refine zeKn (c := 2) (zflw_5 rfl rfl) rfl rfl ?_
  refine zeAdd (zflw_5 rfl rfl) ?_
  refine zeScr (k := 6 * c + 2) (by omega) hL (zflw_5 rfl rfl) ?_
  refine zeP (zflw_5 rfl rfl) rfl ?_
  refine zeCF (zflw_5 rfl rfl) rfl rfl rfl rfl rfl b1 (by omega) ?_
  dsimp only [Option.toList, List.cons_append, List.nil_append]
  refine zeP (zflw_5 rfl rfl) rfl ?_
  refine zeP (zflw_5 rfl rfl) rfl ?_
  refine zeP (zflw_5 rfl rfl) rfl ?_
  refine zeP (zflw_5 rfl rfl) rfl ?_
  refine zeKn (c := 1) (zflw_5 rfl rfl) rfl rfl ?_
  refine zeAdd (zflw_5 rfl rfl) ?_
  refine zeScr (k := 6 * c + 1) (by omega) hL (zflw_5 rfl rfl) ?_
  refine zeP (zflw_5 rfl rfl) rfl ?_
  refine zeP (zflw_5 rfl rfl) rfl ?_
  refine zeKn (c := 2) (zflw_5 rfl rfl) rfl rfl ?_
  refine zeAdd (zflw_5 rfl rfl) ?_
  refine zeScr (k := 6 * c + 2) (by omega) hL (zflw_5 rfl rfl) ?_
  refine zeCF (zflw_5 rfl rfl) rfl rfl rfl rfl rfl b2 (by omega) ?_
  dsimp only [Option.toList, List.cons_append, List.nil_append]
  refine zeP (zflw_5 rfl rfl) rfl ?_
  refine zeP (zflw_5 rfl rfl) rfl ?_
  exact kk
set_option maxRecDepth 100000 in
theorem lc_rivals {c : Nat} {x5 x6 : Option Value} (h : LI m) (hc : 6 * c + 6 ≤ L) (hL : L ≤ 3072) : LC L xs c 965 x5 x6 m yy := by
  obtain ⟨u0, yy1, v2, m2, li, yg, b1, b2, hv⟩ := lr_rivals (L := L) (xs := xs) (yy := yy) (t := (xs (6 * c + 1))) (u := (xs (6 * c + 2))) h
  refine ⟨m2, yy1, some (.int u0), some (.int v2), li, yg, fun o M' kk => ?_⟩
  refine zeP (zflw_5 rfl rfl) rfl ?_
  refine zeP (zflw_5 rfl rfl) rfl ?_
  refine zeP (zflw_5 rfl rfl) rfl ?_
  refine zeKn (c := 1) (zflw_5 rfl rfl) rfl rfl ?_
  refine zeAdd (zflw_5 rfl rfl) ?_
  refine zeScr (k := 6 * c + 1) (by omega) hL (zflw_5 rfl rfl) ?_
  refine zeP (zflw_5 rfl rfl) rfl ?_
  refine zeP (zflw_5 rfl rfl) rfl ?_
  refine zeKn (c := 2) (zflw_5 rfl rfl) rfl rfl ?_
  refine zeAdd (zflw_5 rfl rfl) ?_
  refine zeScr (k := 6 * c + 2) (by omega) hL (zflw_5 rfl rfl) ?_
  refine zeP (zflw_5 rfl rfl) rfl ?_
  refine zeCF (zflw_5 rfl rfl) rfl rfl rfl rfl rfl b1 (by omega) ?_
  dsimp only [Option.toList, List.cons_append, List.nil_append]
  refine zeP (zflw_5 rfl rfl) rfl ?_
  refine zeP (zflw_5 rfl rfl) rfl ?_
  refine zeP (zflw_5 rfl rfl) rfl ?_
  refine zeP (zflw_5 rfl rfl) rfl ?_
  refine zeKn (c := 1) (zflw_5 rfl rfl) rfl rfl ?_
  refine zeAdd (zflw_5 rfl rfl) ?_
  refine zeScr (k := 6 * c + 1) (by omega) hL (zflw_5 rfl rfl) ?_
  refine zeP (zflw_5 rfl rfl) rfl ?_
  refine zeP (zflw_5 rfl rfl) rfl ?_
  refine zeKn (c := 2) (zflw_5 rfl rfl) rfl rfl ?_
  refine zeAdd (zflw_5 rfl rfl) ?_
  refine zeScr (k := 6 * c + 2) (by omega) hL (zflw_5 rfl rfl) ?_
  refine zeCF (zflw_5 rfl rfl) rfl rfl rfl rfl rfl b2 (by omega) ?_
  dsimp only [Option.toList, List.cons_append, List.nil_append]
  refine zeP (zflw_5 rfl rfl) rfl ?_
  refine zeP (zflw_5 rfl rfl) rfl ?_
  exact kk
set_option maxRecDepth 100000 in
theorem lc_nest {c : Nat} {x5 x6 : Option Value} (h : LI m) (hc : 6 * c + 6 ≤ L) (hL : L ≤ 3072) : LC L xs c 1005 x5 x6 m yy := by
  obtain ⟨u0, yy1, v2, m2, li, yg, b1, b2, hv⟩ := lr_nest (L := L) (xs := xs) (yy := yy) (t := (xs (6 * c + 1))) h
  refine ⟨m2, yy1, some (.int u0), some (.int v2), li, yg, fun o M' kk => ?_⟩
  refine zeP (zflw_5 rfl rfl) rfl ?_
  refine zeP (zflw_5 rfl rfl) rfl ?_
  refine zeP (zflw_5 rfl rfl) rfl ?_
  refine zeKn (c := 1) (zflw_5 rfl rfl) rfl rfl ?_
  refine zeAdd (zflw_5 rfl rfl) ?_
  refine zeScr (k := 6 * c + 1) (by omega) hL (zflw_5 rfl rfl) ?_
  refine zeP (zflw_5 rfl rfl) rfl ?_
  refine zeCF (zflw_5 rfl rfl) rfl rfl rfl rfl rfl b1 (by omega) ?_
  dsimp only [Option.toList, List.cons_append, List.nil_append]
  refine zeP (zflw_5 rfl rfl) rfl ?_
  refine zeP (zflw_5 rfl rfl) rfl ?_
  refine zeP (zflw_5 rfl rfl) rfl ?_
  refine zeP (zflw_5 rfl rfl) rfl ?_
  refine zeKn (c := 1) (zflw_5 rfl rfl) rfl rfl ?_
  refine zeAdd (zflw_5 rfl rfl) ?_
  refine zeScr (k := 6 * c + 1) (by omega) hL (zflw_5 rfl rfl) ?_
  refine zeCF (zflw_5 rfl rfl) rfl rfl rfl rfl rfl b2 (by omega) ?_
  dsimp only [Option.toList, List.cons_append, List.nil_append]
  refine zeP (zflw_5 rfl rfl) rfl ?_
  refine zeP (zflw_5 rfl rfl) rfl ?_
  exact kk
set_option maxRecDepth 100000 in
theorem lc_parts {c : Nat} {x5 x6 : Option Value} (h : LI m) (hc : 6 * c + 6 ≤ L) (hL : L ≤ 3072) : LC L xs c 1033 x5 x6 m yy := by
  obtain ⟨u0, yy1, v2, m2, li, yg, b1, b2, hv⟩ := lr_parts (L := L) (xs := xs) (yy := yy) (t := (xs (6 * c + 1))) h
  refine ⟨m2, yy1, some (.int u0), some (.int v2), li, yg, fun o M' kk => ?_⟩
  refine zeP (zflw_6 rfl rfl) rfl ?_
  refine zeP (zflw_6 rfl rfl) rfl ?_
  refine zeP (zflw_6 rfl rfl) rfl ?_
  refine zeKn (c := 1) (zflw_6 rfl rfl) rfl rfl ?_
  refine zeAdd (zflw_6 rfl rfl) ?_
  refine zeScr (k := 6 * c + 1) (by omega) hL (zflw_6 rfl rfl) ?_
  refine zeP (zflw_6 rfl rfl) rfl ?_
  refine zeCF (zflw_6 rfl rfl) rfl rfl rfl rfl rfl b1 (by omega) ?_
  dsimp only [Option.toList, List.cons_append, List.nil_append]
  refine zeP (zflw_6 rfl rfl) rfl ?_
  refine zeP (zflw_6 rfl rfl) rfl ?_
  refine zeP (zflw_6 rfl rfl) rfl ?_
  refine zeP (zflw_6 rfl rfl) rfl ?_
  refine zeKn (c := 1) (zflw_6 rfl rfl) rfl rfl ?_
  refine zeAdd (zflw_6 rfl rfl) ?_
  refine zeScr (k := 6 * c + 1) (by omega) hL (zflw_6 rfl rfl) ?_
  refine zeCF (zflw_6 rfl rfl) rfl rfl rfl rfl rfl b2 (by omega) ?_
  dsimp only [Option.toList, List.cons_append, List.nil_append]
  refine zeP (zflw_6 rfl rfl) rfl ?_
  refine zeP (zflw_6 rfl rfl) rfl ?_
  exact kk
set_option maxRecDepth 100000 in
theorem lc_serial {c : Nat} {x5 x6 : Option Value} (h : LI m) (hc : 6 * c + 6 ≤ L) (hL : L ≤ 3072) : LC L xs c 1061 x5 x6 m yy := by
  obtain ⟨v1, m1, v2, m2, li, b1, b2⟩ := lr_serial (L := L) (xs := xs) (yy := yy) (k := (xs (6 * c + 1))) h
  refine ⟨m2, yy, x5, x6, li, YG.rf, fun o M' kk => ?_⟩
  refine zeP (zflw_6 rfl rfl) rfl ?_
  refine zeP (zflw_6 rfl rfl) rfl ?_
  refine zeP (zflw_6 rfl rfl) rfl ?_
  refine zeKn (c := 1) (zflw_6 rfl rfl) rfl rfl ?_
  refine zeAdd (zflw_6 rfl rfl) ?_
  refine zeScr (k := 6 * c + 1) (by omega) hL (zflw_6 rfl rfl) ?_
  refine zeCV (zflw_6 rfl rfl) rfl rfl rfl zS00 rfl b1 (by omega) ?_
  dsimp only [Option.toList, List.cons_append, List.nil_append]
  refine zeP (zflw_6 rfl rfl) rfl ?_
  refine zeP (zflw_6 rfl rfl) rfl ?_
  refine zeP (zflw_6 rfl rfl) rfl ?_
  refine zeP (zflw_6 rfl rfl) rfl ?_
  refine zeKn (c := 1) (zflw_6 rfl rfl) rfl rfl ?_
  refine zeAdd (zflw_6 rfl rfl) ?_
  refine zeScr (k := 6 * c + 1) (by omega) hL (zflw_6 rfl rfl) ?_
  refine zeCF (zflw_6 rfl rfl) rfl rfl rfl rfl rfl b2 (by omega) ?_
  dsimp only [Option.toList, List.cons_append, List.nil_append]
  refine zeP (zflw_6 rfl rfl) rfl ?_
  refine zeP (zflw_6 rfl rfl) rfl ?_
  exact kk
set_option maxRecDepth 100000 in
theorem lc_output {c : Nat} {x5 x6 : Option Value} (h : LI m) (hc : 6 * c + 6 ≤ L) (hL : L ≤ 3072) : LC L xs c 1086 x5 x6 m yy := by
  obtain ⟨u0, yy1, v2, m2, li, yg, b1, b2, hv⟩ := lr_output (L := L) (xs := xs) (yy := yy) (k := (xs (6 * c + 1))) (x := (xs (6 * c + 2))) h
  refine ⟨m2, yy1, some (.int u0), some (.int v2), li, yg, fun o M' kk => ?_⟩
  refine zeP (zflw_6 rfl rfl) rfl ?_
  refine zeP (zflw_6 rfl rfl) rfl ?_
  refine zeP (zflw_6 rfl rfl) rfl ?_
  refine zeKn (c := 1) (zflw_6 rfl rfl) rfl rfl ?_
  refine zeAdd (zflw_6 rfl rfl) ?_
  refine zeScr (k := 6 * c + 1) (by omega) hL (zflw_6 rfl rfl) ?_
  refine zeP (zflw_6 rfl rfl) rfl ?_
  refine zeP (zflw_6 rfl rfl) rfl ?_
  refine zeKn (c := 2) (zflw_6 rfl rfl) rfl rfl ?_
  refine zeAdd (zflw_6 rfl rfl) ?_
  refine zeScr (k := 6 * c + 2) (by omega) hL (zflw_6 rfl rfl) ?_
  refine zeP (zflw_6 rfl rfl) rfl ?_
  refine zeCF (zflw_6 rfl rfl) rfl rfl rfl rfl rfl b1 (by omega) ?_
  dsimp only [Option.toList, List.cons_append, List.nil_append]
  refine zeP (zflw_6 rfl rfl) rfl ?_
  refine zeP (zflw_6 rfl rfl) rfl ?_
  refine zeP (zflw_6 rfl rfl) rfl ?_
  refine zeP (zflw_6 rfl rfl) rfl ?_
  refine zeKn (c := 1) (zflw_6 rfl rfl) rfl rfl ?_
  refine zeAdd (zflw_6 rfl rfl) ?_
  refine zeScr (k := 6 * c + 1) (by omega) hL (zflw_6 rfl rfl) ?_
  refine zeP (zflw_6 rfl rfl) rfl ?_
  refine zeP (zflw_6 rfl rfl) rfl ?_
  refine zeKn (c := 2) (zflw_6 rfl rfl) rfl rfl ?_
  refine zeAdd (zflw_6 rfl rfl) ?_
  refine zeScr (k := 6 * c + 2) (by omega) hL (zflw_6 rfl rfl) ?_
  refine zeCF (zflw_6 rfl rfl) rfl rfl rfl rfl rfl b2 (by omega) ?_
  dsimp only [Option.toList, List.cons_append, List.nil_append]
  refine zeP (zflw_6 rfl rfl) rfl ?_
  refine zeP (zflw_6 rfl rfl) rfl ?_
  exact kk
set_option maxRecDepth 100000 in
theorem lc_log {c : Nat} {x5 x6 : Option Value} (h : LI m) (hc : 6 * c + 6 ≤ L) (hL : L ≤ 3072) : LC L xs c 1126 x5 x6 m yy := by
  obtain ⟨u0, yy1, v2, m2, li, yg, b1, b2, hv⟩ := lr_log (L := L) (xs := xs) (yy := yy) (k := (xs (6 * c + 1))) (x := (xs (6 * c + 2))) h
  refine ⟨m2, yy1, some (.int u0), some (.int v2), li, yg, fun o M' kk => ?_⟩
  refine zeP (zflw_6 rfl rfl) rfl ?_
  refine zeP (zflw_6 rfl rfl) rfl ?_
  refine zeP (zflw_6 rfl rfl) rfl ?_
  refine zeKn (c := 1) (zflw_6 rfl rfl) rfl rfl ?_
  refine zeAdd (zflw_6 rfl rfl) ?_
  refine zeScr (k := 6 * c + 1) (by omega) hL (zflw_6 rfl rfl) ?_
  refine zeP (zflw_6 rfl rfl) rfl ?_
  refine zeP (zflw_6 rfl rfl) rfl ?_
  refine zeKn (c := 2) (zflw_6 rfl rfl) rfl rfl ?_
  refine zeAdd (zflw_6 rfl rfl) ?_
  refine zeScr (k := 6 * c + 2) (by omega) hL (zflw_6 rfl rfl) ?_
  refine zeP (zflw_6 rfl rfl) rfl ?_
  refine zeCF (zflw_6 rfl rfl) rfl rfl rfl rfl rfl b1 (by omega) ?_
  dsimp only [Option.toList, List.cons_append, List.nil_append]
  refine zeP (zflw_6 rfl rfl) rfl ?_
  refine zeP (zflw_6 rfl rfl) rfl ?_
  refine zeP (zflw_6 rfl rfl) rfl ?_
  refine zeP (zflw_6 rfl rfl) rfl ?_
  refine zeKn (c := 1) (zflw_6 rfl rfl) rfl rfl ?_
  refine zeAdd (zflw_6 rfl rfl) ?_
  refine zeScr (k := 6 * c + 1) (by omega) hL (zflw_6 rfl rfl) ?_
  refine zeP (zflw_6 rfl rfl) rfl ?_
  refine zeP (zflw_6 rfl rfl) rfl ?_
  refine zeKn (c := 2) (zflw_6 rfl rfl) rfl rfl ?_
  refine zeAdd (zflw_6 rfl rfl) ?_
  refine zeScr (k := 6 * c + 2) (by omega) hL (zflw_6 rfl rfl) ?_
  refine zeCF (zflw_6 rfl rfl) rfl rfl rfl rfl rfl b2 (by omega) ?_
  dsimp only [Option.toList, List.cons_append, List.nil_append]
  refine zeP (zflw_6 rfl rfl) rfl ?_
  refine zeP (zflw_6 rfl rfl) rfl ?_
  exact kk
set_option maxRecDepth 100000 in
theorem lc_text {c : Nat} {x5 x6 : Option Value} (h : LI m) (hc : 6 * c + 6 ≤ L) (hL : L ≤ 3072) : LC L xs c 1166 x5 x6 m yy := by
  obtain ⟨u0, m1, yy1, v2, m2, li, yg, b1, b2⟩ := lr_text (L := L) (xs := xs) (yy := yy) (t := (xs (6 * c + 1))) h
  refine ⟨m2, yy1, some (.int u0), some (.int v2), li, yg, fun o M' kk => ?_⟩
  refine zeP (zflw_6 rfl rfl) rfl ?_
  refine zeP (zflw_6 rfl rfl) rfl ?_
  refine zeP (zflw_6 rfl rfl) rfl ?_
  refine zeKn (c := 1) (zflw_6 rfl rfl) rfl rfl ?_
  refine zeAdd (zflw_6 rfl rfl) ?_
  refine zeScr (k := 6 * c + 1) (by omega) hL (zflw_6 rfl rfl) ?_
  refine zeP (zflw_6 rfl rfl) rfl ?_
  refine zeCF (zflw_6 rfl rfl) rfl rfl rfl rfl rfl b1 (by omega) ?_
  dsimp only [Option.toList, List.cons_append, List.nil_append]
  refine zeP (zflw_6 rfl rfl) rfl ?_
  refine zeP (zflw_7 rfl rfl) rfl ?_
  refine zeP (zflw_7 rfl rfl) rfl ?_
  refine zeP (zflw_7 rfl rfl) rfl ?_
  refine zeKn (c := 1) (zflw_7 rfl rfl) rfl rfl ?_
  refine zeAdd (zflw_7 rfl rfl) ?_
  refine zeScr (k := 6 * c + 1) (by omega) hL (zflw_7 rfl rfl) ?_
  refine zeCF (zflw_7 rfl rfl) rfl rfl rfl rfl rfl b2 (by omega) ?_
  dsimp only [Option.toList, List.cons_append, List.nil_append]
  refine zeP (zflw_7 rfl rfl) rfl ?_
  refine zeP (zflw_7 rfl rfl) rfl ?_
  exact kk
set_option maxRecDepth 100000 in
theorem lc_octet {c : Nat} {x5 x6 : Option Value} (h : LI m) (hc : 6 * c + 6 ≤ L) (hL : L ≤ 3072) : LC L xs c 1194 x5 x6 m yy := by
  obtain ⟨v1, v2, m2, li, b1, b2⟩ := lr_octet (L := L) (xs := xs) (yy := yy) (k := (xs (6 * c + 1))) h
  refine ⟨m2, yy, x5, x6, li, YG.rf, fun o M' kk => ?_⟩
  refine zeP (zflw_7 rfl rfl) rfl ?_
  refine zeP (zflw_7 rfl rfl) rfl ?_
  refine zeP (zflw_7 rfl rfl) rfl ?_
  refine zeKn (c := 1) (zflw_7 rfl rfl) rfl rfl ?_
  refine zeAdd (zflw_7 rfl rfl) ?_
  refine zeScr (k := 6 * c + 1) (by omega) hL (zflw_7 rfl rfl) ?_
  refine zeCV (zflw_7 rfl rfl) rfl rfl rfl zS00 rfl b1 (by omega) ?_
  dsimp only [Option.toList, List.cons_append, List.nil_append]
  refine zeP (zflw_7 rfl rfl) rfl ?_
  refine zeP (zflw_7 rfl rfl) rfl ?_
  refine zeP (zflw_7 rfl rfl) rfl ?_
  refine zeP (zflw_7 rfl rfl) rfl ?_
  refine zeKn (c := 1) (zflw_7 rfl rfl) rfl rfl ?_
  refine zeAdd (zflw_7 rfl rfl) ?_
  refine zeScr (k := 6 * c + 1) (by omega) hL (zflw_7 rfl rfl) ?_
  refine zeCF (zflw_7 rfl rfl) rfl rfl rfl rfl rfl b2 (by omega) ?_
  dsimp only [Option.toList, List.cons_append, List.nil_append]
  refine zeP (zflw_7 rfl rfl) rfl ?_
  refine zeP (zflw_7 rfl rfl) rfl ?_
  exact kk
set_option maxRecDepth 100000 in
theorem lc_image {c : Nat} {x5 x6 : Option Value} (h : LI m) (hc : 6 * c + 6 ≤ L) (hL : L ≤ 3072) : LC L xs c 1219 x5 x6 m yy := by
  obtain ⟨m1, m2, li, b1, b2⟩ := lr_image (L := L) (xs := xs) (yy := yy) h
  refine ⟨m2, yy, x5, x6, li, YG.rf, fun o M' kk => ?_⟩
  refine zeP (zflw_7 rfl rfl) rfl ?_
  refine zeCV (zflw_7 rfl rfl) rfl rfl rfl zS00 rfl b1 (by omega) ?_
  dsimp only [Option.toList, List.cons_append, List.nil_append]
  refine zeP (zflw_7 rfl rfl) rfl ?_
  refine zeCF (zflw_7 rfl rfl) rfl rfl rfl rfl rfl b2 (by omega) ?_
  dsimp only [Option.toList, List.cons_append, List.nil_append]
  refine zeP (zflw_7 rfl rfl) rfl ?_
  exact kk
set_option maxRecDepth 100000 in
theorem lc_back {c : Nat} {x5 x6 : Option Value} (h : LI m) (hc : 6 * c + 6 ≤ L) (hL : L ≤ 3072) : LC L xs c 1230 x5 x6 m yy := by
  obtain ⟨v1, m1, v2, m2, li, b1, b2, hv⟩ := lr_back (L := L) (xs := xs) (yy := yy) h
  refine ⟨m2, yy, x5, x6, li, YG.rf, fun o M' kk => ?_⟩
  refine zeP (zflw_7 rfl rfl) rfl ?_
  refine zeCV (zflw_7 rfl rfl) rfl rfl rfl zS00 rfl b1 (by omega) ?_
  dsimp only [Option.toList, List.cons_append, List.nil_append]
  refine zeP (zflw_7 rfl rfl) rfl ?_
  refine zeP (zflw_7 rfl rfl) rfl ?_
  refine zeCF (zflw_7 rfl rfl) rfl rfl rfl rfl rfl b2 (by omega) ?_
  dsimp only [Option.toList, List.cons_append, List.nil_append]
  refine zeP (zflw_7 rfl rfl) rfl ?_
  refine zeP (zflw_7 rfl rfl) rfl ?_
  exact kk
set_option maxRecDepth 100000 in
theorem lc_count {c : Nat} {x5 x6 : Option Value} (h : LI m) (hc : 6 * c + 6 ≤ L) (hL : L ≤ 3072) : LC L xs c 1243 x5 x6 m yy := by
  obtain ⟨v1, v2, m2, li, b1, b2, hv⟩ := lr_count (L := L) (xs := xs) (yy := yy) (x := (xs (6 * c + 1))) h
  refine ⟨m2, yy, x5, x6, li, YG.rf, fun o M' kk => ?_⟩
  refine zeP (zflw_7 rfl rfl) rfl ?_
  refine zeP (zflw_7 rfl rfl) rfl ?_
  refine zeP (zflw_7 rfl rfl) rfl ?_
  refine zeKn (c := 1) (zflw_7 rfl rfl) rfl rfl ?_
  refine zeAdd (zflw_7 rfl rfl) ?_
  refine zeScr (k := 6 * c + 1) (by omega) hL (zflw_7 rfl rfl) ?_
  refine zeCV (zflw_7 rfl rfl) rfl rfl rfl zS00 rfl b1 (by omega) ?_
  dsimp only [Option.toList, List.cons_append, List.nil_append]
  refine zeP (zflw_7 rfl rfl) rfl ?_
  refine zeP (zflw_7 rfl rfl) rfl ?_
  refine zeP (zflw_7 rfl rfl) rfl ?_
  refine zeKn (c := 1) (zflw_7 rfl rfl) rfl rfl ?_
  refine zeAdd (zflw_7 rfl rfl) ?_
  refine zeScr (k := 6 * c + 1) (by omega) hL (zflw_7 rfl rfl) ?_
  refine zeCF (zflw_7 rfl rfl) rfl rfl rfl rfl rfl b2 (by omega) ?_
  dsimp only [Option.toList, List.cons_append, List.nil_append]
  refine zeT2 (zflw_7 rfl rfl) rfl (decide_eq_true hv) ?_
  exact kk
end ZLW
