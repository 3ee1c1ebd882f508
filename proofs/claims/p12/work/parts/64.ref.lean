theorem zcgt {a b : Nat} (ha : a < 2147483648) (hb : b < 2147483648) (h : b < a) : zc2 .gt (Int32.ofNat a) (Int32.ofNat b) = true := by
  apply decide_eq_true
  rw [Int32.lt_iff_toInt_lt, zoN ha, zoN hb]
  omega
theorem zcgt_f {a b : Nat} (ha : a < 2147483648) (hb : b < 2147483648) (h : a ≤ b) : zc2 .gt (Int32.ofNat a) (Int32.ofNat b) = false := by
  apply decide_eq_false
  rw [Int32.lt_iff_toInt_lt, zoN ha, zoN hb]
  omega
theorem zon0 {a : Nat} (h1 : 1 ≤ a) (h : a < 2147483648) : ¬ Int32.ofNat a = 0 := by
  intro e
  have h2 := congrArg Int32.toInt e
  rw [zoN h, Int32.toInt_zero] at h2
  omega
theorem zdivN {a b : Nat} (ha : a < 2147483648) (hb : b < 2147483648) : Int32.ofNat a / Int32.ofNat b = Int32.ofNat (a / b) := by
  exact (Int32.ofNat_div (by first | exact zq_adn (by decide) | exact zq_adr (zq_adn (by decide)) | omega) (by first | exact zq_adn (by decide) | exact zq_adr (zq_adn (by decide)) | omega)).symm
theorem zremN {a b : Nat} (ha : a < 2147483648) (hb : b < 2147483648) : Int32.ofNat a - Int32.ofNat a / Int32.ofNat b * Int32.ofNat b = Int32.ofNat (a % b) := by
  rw [zdivN ha hb, ← Int32.ofNat_mul]
  have e : a = a % b + a / b * b := by rw [Nat.mul_comm]; exact (Nat.mod_add_div a b).symm
  have e2 : Int32.ofNat a = Int32.ofNat (a % b) + Int32.ofNat (a / b * b) := by
    rw [← Int32.ofNat_add, ← e]
  rw [e2, Int32.add_sub_cancel]
/-- whose turn it was, and one more -/
noncomputable def lt1 (W : Nat → Int32) : Nat := (W 12 + Int32.ofNat 1).toNatClampNeg
noncomputable def LT (W : Nat → Int32) : Prop := W 12 + Int32.ofNat 1 = Int32.ofNat (lt1 W) ∧ lt1 W ≤ 4
theorem nx_eq {W : Nat → Int32} {k N : Nat} (h : LT W) (hk : 1 ≤ k) (hk4 : k ≤ 4) (hN : N ≤ 4) : (W 12 + Int32.ofNat k) - (W 12 + Int32.ofNat k) / Int32.ofNat N * Int32.ofNat N = Int32.ofNat ((lt1 W + (k - 1)) % N) := by
  have e : W 12 + Int32.ofNat k = Int32.ofNat (lt1 W + (k - 1)) := by
    have e1 : k = 1 + (k - 1) := by omega
    have e2 : Int32.ofNat k = Int32.ofNat 1 + Int32.ofNat (k - 1) := by rw [← Int32.ofNat_add, ← e1]
    rw [e2, ← Int32.add_assoc, h.1, ← Int32.ofNat_add]
  have := h.2
  rw [e, zremN (by first | exact zq_adn (by decide) | exact zq_adr (zq_adn (by decide)) | omega) (by first | exact zq_adn (by decide) | exact zq_adr (zq_adn (by decide)) | omega)]
noncomputable def l_doneOnes (W : Nat → Int32) : Nat → Int32 → Nat → Int32
  | 0, s, k => s
  | n + 1, s, k => (bif zc1 .eq (q_isDone W k) then (l_doneOnes W n ((s ||| (Int32.ofNat 0))) ((k + 1))) else (l_doneOnes W n ((s ||| ((Int32.ofNat 1) <<< ((Int32.ofNat k) &&& 31)))) ((k + 1))))
theorem w_doneOnes {σ : Nat → Nat × (Nat → Int32)} {yy : (Nat → Nat → Int64) × Bool × Nat × Nat} {m : Nat → Nat → Int32} {W : Nat → Int32} {d : Nat} (hd : 4 ≤ d + 1) (hN : W 9 = Int32.ofNat (nv W 9)) (hN4 : nv W 9 ≤ 4) : ∀ (n : Nat) (s : Int32) (k : Nat), k + n = nv W 9 → zEv σ (d + 1) 1836 4 [some (.ref 137), some (.int s), some (.int (Int32.ofNat k))] [] (zS1, zrow m 138 W, yy) (.inl (some (.int (l_doneOnes W n s k)))) (zS1, zrow m 138 W, yy) := by
  intro n
  induction n with
  | zero =>
    intro s k hk
    refine zeP rfl rfl ?_
    refine zeP rfl rfl ?_
    refine zeCF rfl rfl rfl rfl rfl rfl (c_threads (m := m) (W := W)  ) (by first | exact zq_adn (by decide) | exact zq_adr (zq_adn (by decide)) | omega) ?_
    dsimp only [Option.toList, List.cons_append, List.nil_append]
    rw [show q_threads W = Int32.ofNat (nv W 9) from hN]
    refine zeT2 rfl rfl (zcge (by first | exact zq_adn (by decide) | exact zq_adr (zq_adn (by decide)) | omega) (by first | exact zq_adn (by decide) | exact zq_adr (zq_adn (by decide)) | omega) (by first | exact zq_adn (by decide) | exact zq_adr (zq_adn (by decide)) | omega)) ?_
    refine zeP rfl rfl ?_
    exact zeRe rfl rfl rfl rfl (by rfl) (by rfl)
  | succ n ih =>
    intro s k hk
    refine zeP rfl rfl ?_
    refine zeP rfl rfl ?_
    refine zeCF rfl rfl rfl rfl rfl rfl (c_threads (m := m) (W := W)  ) (by first | exact zq_adn (by decide) | exact zq_adr (zq_adn (by decide)) | omega) ?_
    dsimp only [Option.toList, List.cons_append, List.nil_append]
    rw [show q_threads W = Int32.ofNat (nv W 9) from hN]
    refine zeF2 rfl rfl (zcge_f (by first | exact zq_adn (by decide) | exact zq_adr (zq_adn (by decide)) | omega) (by first | exact zq_adn (by decide) | exact zq_adr (zq_adn (by decide)) | omega) (by first | exact zq_adn (by decide) | exact zq_adr (zq_adn (by decide)) | omega)) ?_
    refine zeP rfl rfl ?_
    refine zeP rfl rfl ?_
    refine zeP rfl rfl ?_
    refine zeCF rfl rfl rfl rfl rfl rfl (c_isDone (m := m) (W := W) (t := k) (by first | assumption | omega)) (by first | exact zq_adn (by decide) | exact zq_adr (zq_adn (by decide)) | omega) ?_
    dsimp only [Option.toList, List.cons_append, List.nil_append]
    refine zeB1 rfl rfl (fun h1 => ?_) (fun h1 => ?_)
    · refine zeKn (c := 0) rfl rfl rfl ?_
      refine zeP rfl rfl ?_
      refine zeP rfl rfl ?_
      refine zeInc rfl rfl ?_
      refine zeP rfl rfl ?_
      simp only [l_doneOnes, h1, cond_true, cond_false]
      exact ih ((s ||| (Int32.ofNat 0))) ((k + 1))   (by first | exact zq_adn (by decide) | exact zq_adr (zq_adn (by decide)) | omega) 
    · refine zeKn (c := 1) rfl rfl rfl ?_
      refine zeP rfl rfl ?_
      refine zeP rfl rfl ?_
      refine zeP rfl rfl ?_
      refine zeP rfl rfl ?_
      refine zeP rfl rfl ?_
      refine zeInc rfl rfl ?_
      refine zeP rfl rfl ?_
      simp only [l_doneOnes, h1, cond_true, cond_false]
      exact ih ((s ||| ((Int32.ofNat 1) <<< ((Int32.ofNat k) &&& 31)))) ((k + 1))   (by first | exact zq_adn (by decide) | exact zq_adr (zq_adn (by decide)) | omega) 
noncomputable def q_doneOnes (W : Nat → Int32) : Int32 := (l_doneOnes W ((nv W 9)) ((Int32.ofNat 0)) 0)
theorem p_doneOnes {σ : Nat → Nat × (Nat → Int32)} {yy : (Nat → Nat → Int64) × Bool × Nat × Nat} {m : Nat → Nat → Int32} {W : Nat → Int32} {d : Nat} (hd : 4 ≤ d + 1) (hN : W 9 = Int32.ofNat (nv W 9)) (hN4 : nv W 9 ≤ 4) : zEv σ (d + 1) 1836 0 [some (.ref 137), none, none] [] (zS1, zrow m 138 W, yy) (.inl (some (.int (q_doneOnes W)))) (zS1, zrow m 138 W, yy) := by
  refine zeKn (c := 0) rfl rfl rfl ?_
  refine zeP rfl rfl ?_
  refine zeKn (c := 0) rfl rfl rfl ?_
  refine zeP rfl rfl ?_
  simp only [q_doneOnes, cond_true, cond_false]
  exact w_doneOnes  (W := W) (m := m) (by first | exact zq_adn (by decide) | exact zq_adr (zq_adn (by decide)) | omega) (by first | assumption | omega) (by first | assumption | omega) ((nv W 9)) ((Int32.ofNat 0)) (0)   (by first | exact zq_adn (by decide) | exact zq_adr (zq_adn (by decide)) | omega) 
theorem c_doneOnes {σ : Nat → Nat × (Nat → Int32)} {yy : (Nat → Nat → Int64) × Bool × Nat × Nat} {m : Nat → Nat → Int32} {W : Nat → Int32} (hN : W 9 = Int32.ofNat (nv W 9)) (hN4 : nv W 9 ≤ 4) : zF σ 4 1836 [.ref 137] (zS1, zrow m 138 W, yy) (.inl (some (.int (q_doneOnes W)))) (zS1, zrow m 138 W, yy) := by
  intro d hd
  obtain ⟨d, rfl⟩ : ∃ k, d = k + 1 := ⟨d - 1, by omega⟩
  exact p_doneOnes hd hN hN4
noncomputable def q_areAllDone (W : Nat → Int32) : Int32 := (bif zc2 .ne (q_doneOnes W) (((Int32.ofNat 1) <<< ((q_threads W) &&& 31)) - (Int32.ofNat 1)) then (Int32.ofNat 0) else (Int32.ofNat 1))
theorem p_areAllDone {σ : Nat → Nat × (Nat → Int32)} {yy : (Nat → Nat → Int64) × Bool × Nat × Nat} {m : Nat → Nat → Int32} {W : Nat → Int32} {d : Nat} (hd : 5 ≤ d + 1) (hN : W 9 = Int32.ofNat (nv W 9)) (hN4 : nv W 9 ≤ 4) : zEv σ (d + 1) 1837 0 [some (.ref 137)] [] (zS1, zrow m 138 W, yy) (.inl (some (.int (q_areAllDone W)))) (zS1, zrow m 138 W, yy) := by
  refine zeP rfl rfl ?_
  refine zeCF rfl rfl rfl rfl rfl rfl (c_doneOnes (m := m) (W := W)  (by first | assumption | omega) (by first | assumption | omega)) (by first | exact zq_adn (by decide) | exact zq_adr (zq_adn (by decide)) | omega) ?_
  dsimp only [Option.toList, List.cons_append, List.nil_append]
  refine zeKn (c := 1) rfl rfl rfl ?_
  refine zeP rfl rfl ?_
  refine zeCF rfl rfl rfl rfl rfl rfl (c_threads (m := m) (W := W)  ) (by first | exact zq_adn (by decide) | exact zq_adr (zq_adn (by decide)) | omega) ?_
  dsimp only [Option.toList, List.cons_append, List.nil_append]
  refine zeP rfl rfl ?_
  refine zeKn (c := 1) rfl rfl rfl ?_
  refine zeP rfl rfl ?_
  refine zeB2 rfl rfl (fun h1 => ?_) (fun h1 => ?_)
  · refine zeKn (c := 0) rfl rfl rfl ?_
    exact zeRe rfl rfl rfl rfl (by simp only [q_areAllDone, h1, cond_true, cond_false] <;> rfl) (by simp only [q_areAllDone, h1, cond_true, cond_false] <;> rfl)
  · refine zeKn (c := 1) rfl rfl rfl ?_
    refine zeP rfl rfl ?_
    exact zeRe rfl rfl rfl rfl (by simp only [q_areAllDone, h1, cond_true, cond_false] <;> rfl) (by simp only [q_areAllDone, h1, cond_true, cond_false] <;> rfl)
theorem c_areAllDone {σ : Nat → Nat × (Nat → Int32)} {yy : (Nat → Nat → Int64) × Bool × Nat × Nat} {m : Nat → Nat → Int32} {W : Nat → Int32} (hN : W 9 = Int32.ofNat (nv W 9)) (hN4 : nv W 9 ≤ 4) : zF σ 5 1837 [.ref 137] (zS1, zrow m 138 W, yy) (.inl (some (.int (q_areAllDone W)))) (zS1, zrow m 138 W, yy) := by
  intro d hd
  obtain ⟨d, rfl⟩ : ∃ k, d = k + 1 := ⟨d - 1, by omega⟩
  exact p_areAllDone hd hN hN4
noncomputable def l_nextOne (W : Nat → Int32) : Nat → Nat → Int32
  | 0, k => (-1)
  | n + 1, k => (bif zc1 .ne (q_isDone W (((lt1 W + (k - 1)) % nv W 9))) then (l_nextOne W n ((k + 1))) else (Int32.ofNat ((lt1 W + (k - 1)) % nv W 9)))
theorem w_nextOne {σ : Nat → Nat × (Nat → Int32)} {yy : (Nat → Nat → Int64) × Bool × Nat × Nat} {m : Nat → Nat → Int32} {W : Nat → Int32} {d : Nat} (hd : 4 ≤ d + 1) (hN : W 9 = Int32.ofNat (nv W 9)) (hN4 : nv W 9 ≤ 4) (hLT : LT W) : ∀ (n : Nat) (k : Nat) (x2 : Option Value), k + n = nv W 9 + 1 → 1 ≤ k → zEv σ (d + 1) 1838 2 [some (.ref 137), some (.int (Int32.ofNat k)), x2] [] (zS1, zrow m 138 W, yy) (.inl (some (.int (l_nextOne W n k)))) (zS1, zrow m 138 W, yy) := by
  intro n
  induction n with
  | zero =>
    intro k x2 hk hk1
    refine zeP rfl rfl ?_
    refine zeP rfl rfl ?_
    refine zeCF rfl rfl rfl rfl rfl rfl (c_threads (m := m) (W := W)  ) (by first | exact zq_adn (by decide) | exact zq_adr (zq_adn (by decide)) | omega) ?_
    dsimp only [Option.toList, List.cons_append, List.nil_append]
    rw [show q_threads W = Int32.ofNat (nv W 9) from hN]
    refine zeT2 rfl rfl (zcgt (by first | exact zq_adn (by decide) | exact zq_adr (zq_adn (by decide)) | omega) (by first | exact zq_adn (by decide) | exact zq_adr (zq_adn (by decide)) | omega) (by first | exact zq_adn (by decide) | exact zq_adr (zq_adn (by decide)) | omega)) ?_
    refine zeK (v := -1) rfl rfl rfl ?_
    exact zeRe rfl rfl rfl rfl (by rfl) (by rfl)
  | succ n ih =>
    intro k x2 hk hk1
    refine zeP rfl rfl ?_
    refine zeP rfl rfl ?_
    refine zeCF rfl rfl rfl rfl rfl rfl (c_threads (m := m) (W := W)  ) (by first | exact zq_adn (by decide) | exact zq_adr (zq_adn (by decide)) | omega) ?_
    dsimp only [Option.toList, List.cons_append, List.nil_append]
    rw [show q_threads W = Int32.ofNat (nv W 9) from hN]
    refine zeF2 rfl rfl (zcgt_f (by first | exact zq_adn (by decide) | exact zq_adr (zq_adn (by decide)) | omega) (by first | exact zq_adn (by decide) | exact zq_adr (zq_adn (by decide)) | omega) (by first | exact zq_adn (by decide) | exact zq_adr (zq_adn (by decide)) | omega)) ?_
    refine zeP rfl rfl ?_
    refine zeGR rfl rfl zS137 rfl rfl ?_
    refine zeKn (c := 12) rfl rfl rfl ?_
    refine zeWL (k := 12) rfl (by first | exact zq_adn (by decide) | exact zq_adr (zq_adn (by decide)) | omega) ?_
    refine zeP rfl rfl ?_
    refine zeP rfl rfl ?_
    refine zeP rfl rfl ?_
    refine zeCF rfl rfl rfl rfl rfl rfl (c_threads (m := m) (W := W)  ) (by first | exact zq_adn (by decide) | exact zq_adr (zq_adn (by decide)) | omega) ?_
    dsimp only [Option.toList, List.cons_append, List.nil_append]
    rw [show q_threads W = Int32.ofNat (nv W 9) from hN]
    refine zeRem rfl (zon0 (by first | exact zq_adn (by decide) | exact zq_adr (zq_adn (by decide)) | omega) (by first | exact zq_adn (by decide) | exact zq_adr (zq_adn (by decide)) | omega)) ?_
    rw [nx_eq hLT hk1 (by first | exact zq_adn (by decide) | exact zq_adr (zq_adn (by decide)) | omega) hN4]
    refine zeP rfl rfl ?_
    refine zeP rfl rfl ?_
    refine zeP rfl rfl ?_
    refine zeCF rfl rfl rfl rfl rfl rfl (c_isDone (m := m) (W := W) (t := ((lt1 W + (k - 1)) % nv W 9)) (Nat.lt_of_lt_of_le (Nat.mod_lt _ (by first | exact zq_adn (by decide) | exact zq_adr (zq_adn (by decide)) | omega)) hN4)) (by first | exact zq_adn (by decide) | exact zq_adr (zq_adn (by decide)) | omega) ?_
    dsimp only [Option.toList, List.cons_append, List.nil_append]
    refine zeB1 rfl rfl (fun h1 => ?_) (fun h1 => ?_)
    · refine zeInc rfl rfl ?_
      refine zeP rfl rfl ?_
      simp only [l_nextOne, h1, cond_true, cond_false]
      exact ih ((k + 1)) (some (.int (Int32.ofNat ((lt1 W + (k - 1)) % nv W 9))))   (by first | exact zq_adn (by decide) | exact zq_adr (zq_adn (by decide)) | omega) (by first | assumption | omega)
    · refine zeP rfl rfl ?_
      exact zeRe rfl rfl rfl rfl (by simp only [l_nextOne, h1, cond_true, cond_false] <;> rfl) (by simp only [l_nextOne, h1, cond_true, cond_false] <;> rfl)
noncomputable def q_nextOne (W : Nat → Int32) : Int32 := (l_nextOne W ((nv W 9)) 1)
theorem p_nextOne {σ : Nat → Nat × (Nat → Int32)} {yy : (Nat → Nat → Int64) × Bool × Nat × Nat} {m : Nat → Nat → Int32} {W : Nat → Int32} {d : Nat} (hd : 4 ≤ d + 1) (hN : W 9 = Int32.ofNat (nv W 9)) (hN4 : nv W 9 ≤ 4) (hLT : LT W) : zEv σ (d + 1) 1838 0 [some (.ref 137), none, none] [] (zS1, zrow m 138 W, yy) (.inl (some (.int (q_nextOne W)))) (zS1, zrow m 138 W, yy) := by
  refine zeKn (c := 1) rfl rfl rfl ?_
  refine zeP rfl rfl ?_
  simp only [q_nextOne, cond_true, cond_false]
  exact w_nextOne  (W := W) (m := m) (by first | exact zq_adn (by decide) | exact zq_adr (zq_adn (by decide)) | omega) hN hN4 hLT ((nv W 9)) (1) (none)   (by first | exact zq_adn (by decide) | exact zq_adr (zq_adn (by decide)) | omega) (by first | exact zq_adn (by decide) | exact zq_adr (zq_adn (by decide)) | omega)
theorem c_nextOne {σ : Nat → Nat × (Nat → Int32)} {yy : (Nat → Nat → Int64) × Bool × Nat × Nat} {m : Nat → Nat → Int32} {W : Nat → Int32} (hN : W 9 = Int32.ofNat (nv W 9)) (hN4 : nv W 9 ≤ 4) (hLT : LT W) : zF σ 4 1838 [.ref 137] (zS1, zrow m 138 W, yy) (.inl (some (.int (q_nextOne W)))) (zS1, zrow m 138 W, yy) := by
  intro d hd
  obtain ⟨d, rfl⟩ : ∃ k, d = k + 1 := ⟨d - 1, by omega⟩
  exact p_nextOne hd hN hN4 hLT
noncomputable def q_drawOf (W : Nat → Int32) (b : Int32) : Int32 × (Nat → Int32) := ((((((((upd W 13 (((W 13) * (Int32.ofNat 1103515245)) + (Int32.ofNat 12345)))) 13)).toUInt32 >>> (((Int32.ofNat 16)).toUInt32 &&& Int32.toUInt32 31)).toInt32 &&& (Int32.ofNat 32767)) - ((((((upd W 13 (((W 13) * (Int32.ofNat 1103515245)) + (Int32.ofNat 12345)))) 13)).toUInt32 >>> (((Int32.ofNat 16)).toUInt32 &&& Int32.toUInt32 31)).toInt32 &&& (Int32.ofNat 32767)) / b * b), (upd W 13 (((W 13) * (Int32.ofNat 1103515245)) + (Int32.ofNat 12345))))
theorem p_drawOf {σ : Nat → Nat × (Nat → Int32)} {yy : (Nat → Nat → Int64) × Bool × Nat × Nat} {m : Nat → Nat → Int32} {W : Nat → Int32} {b : Int32} {d : Nat} (hd : 1 ≤ d + 1) (hb : ¬ b = 0) : zEv σ (d + 1) 1839 0 [some (.ref 137), some (.int b)] [] (zS1, zrow m 138 W, yy) (.inl (some (.int (q_drawOf W b).1))) (zS1, zrow m 138 ((q_drawOf W b).2), yy) := by
  refine zeP rfl rfl ?_
  refine zeGR rfl rfl zS137 rfl rfl ?_
  refine zeKn (c := 13) rfl rfl rfl ?_
  refine zeP rfl rfl ?_
  refine zeGR rfl rfl zS137 rfl rfl ?_
  refine zeKn (c := 13) rfl rfl rfl ?_
  refine zeWL (k := 13) rfl (by first | exact zq_adn (by decide) | exact zq_adr (zq_adn (by decide)) | omega) ?_
  refine zeKn (c := 1103515245) rfl rfl rfl ?_
  refine zeP rfl rfl ?_
  refine zeKn (c := 12345) rfl rfl rfl ?_
  refine zeP rfl rfl ?_
  refine zeWS (k := 13) rfl (by first | exact zq_adn (by decide) | exact zq_adr (zq_adn (by decide)) | omega) ?_
  refine zeP rfl rfl ?_
  refine zeGR rfl rfl zS137 rfl rfl ?_
  refine zeKn (c := 13) rfl rfl rfl ?_
  refine zeWL (k := 13) rfl (by first | exact zq_adn (by decide) | exact zq_adr (zq_adn (by decide)) | omega) ?_
  refine zeKn (c := 16) rfl rfl rfl ?_
  refine zeP rfl rfl ?_
  refine zeKn (c := 32767) rfl rfl rfl ?_
  refine zeP rfl rfl ?_
  refine zeP rfl rfl ?_
  refine zeRem rfl hb ?_
  exact zeRe rfl rfl rfl rfl (by rfl) (by rfl)
theorem c_drawOf {σ : Nat → Nat × (Nat → Int32)} {yy : (Nat → Nat → Int64) × Bool × Nat × Nat} {m : Nat → Nat → Int32} {W : Nat → Int32} {b : Int32} (hb : ¬ b = 0) : zF σ 1 1839 [.ref 137, .int b] (zS1, zrow m 138 W, yy) (.inl (some (.int (q_drawOf W b).1))) (zS1, zrow m 138 ((q_drawOf W b).2), yy) := by
  intro d hd
  obtain ⟨d, rfl⟩ : ∃ k, d = k + 1 := ⟨d - 1, by omega⟩
  exact p_drawOf hd hb
noncomputable def l_drawnOne (W : Nat → Int32) (n9 : Nat) : Nat → Int32 → Nat → Int32
  | 0, a, k => (-1)
  | n + 1, a, k => (bif zc1 .eq (q_isDone W k) then (bif zc1 .ne a then (l_drawnOne W n9 n ((a + Int32.ofInt (-1))) ((k + 1))) else (Int32.ofNat k)) else (l_drawnOne W n9 n a ((k + 1))))
theorem w_drawnOne {σ : Nat → Nat × (Nat → Int32)} {yy : (Nat → Nat → Int64) × Bool × Nat × Nat} {m : Nat → Nat → Int32} {W : Nat → Int32} {n9 : Nat} {d : Nat} (hd : 4 ≤ d + 1) (hN : W 9 = Int32.ofNat n9) (hN4 : n9 ≤ 4) : ∀ (n : Nat) (a : Int32) (k : Nat), k + n = n9 → zEv σ (d + 1) 1840 19 [some (.ref 137), some (.int a), some (.int (Int32.ofNat k))] [] (zS1, zrow m 138 W, yy) (.inl (some (.int (l_drawnOne W n9 n a k)))) (zS1, zrow m 138 W, yy) := by
  intro n
  induction n with
  | zero =>
    intro a k hk
    refine zeP rfl rfl ?_
    refine zeP rfl rfl ?_
    refine zeCF rfl rfl rfl rfl rfl rfl (c_threads (m := m) (W := W)  ) (by first | exact zq_adn (by decide) | exact zq_adr (zq_adn (by decide)) | omega) ?_
    dsimp only [Option.toList, List.cons_append, List.nil_append]
    rw [show q_threads W = Int32.ofNat n9 from hN]
    refine zeT2 rfl rfl (zcge (by first | exact zq_adn (by decide) | exact zq_adr (zq_adn (by decide)) | omega) (by first | exact zq_adn (by decide) | exact zq_adr (zq_adn (by decide)) | omega) (by first | exact zq_adn (by decide) | exact zq_adr (zq_adn (by decide)) | omega)) ?_
    refine zeK (v := -1) rfl rfl rfl ?_
    exact zeRe rfl rfl rfl rfl (by rfl) (by rfl)
  | succ n ih =>
    intro a k hk
    refine zeP rfl rfl ?_
    refine zeP rfl rfl ?_
    refine zeCF rfl rfl rfl rfl rfl rfl (c_threads (m := m) (W := W)  ) (by first | exact zq_adn (by decide) | exact zq_adr (zq_adn (by decide)) | omega) ?_
    dsimp only [Option.toList, List.cons_append, List.nil_append]
    rw [show q_threads W = Int32.ofNat n9 from hN]
    refine zeF2 rfl rfl (zcge_f (by first | exact zq_adn (by decide) | exact zq_adr (zq_adn (by decide)) | omega) (by first | exact zq_adn (by decide) | exact zq_adr (zq_adn (by decide)) | omega) (by first | exact zq_adn (by decide) | exact zq_adr (zq_adn (by decide)) | omega)) ?_
    refine zeP rfl rfl ?_
    refine zeP rfl rfl ?_
    refine zeCF rfl rfl rfl rfl rfl rfl (c_isDone (m := m) (W := W) (t := k) (by first | assumption | omega)) (by first | exact zq_adn (by decide) | exact zq_adr (zq_adn (by decide)) | omega) ?_
    dsimp only [Option.toList, List.cons_append, List.nil_append]
    refine zeB1 rfl rfl (fun h1 => ?_) (fun h1 => ?_)
    · refine zeP rfl rfl ?_
      refine zeB1 rfl rfl (fun h2 => ?_) (fun h2 => ?_)
      · refine zeP rfl rfl ?_
        refine zeInc rfl rfl ?_
        refine zeP rfl rfl ?_
        simp only [l_drawnOne, h1, h2, cond_true, cond_false]
        exact ih ((a + Int32.ofInt (-1))) ((k + 1))   (by first | exact zq_adn (by decide) | exact zq_adr (zq_adn (by decide)) | omega) 
      · refine zeP rfl rfl ?_
        exact zeRe rfl rfl rfl rfl (by simp only [l_drawnOne, h1, h2, cond_true, cond_false] <;> rfl) (by simp only [l_drawnOne, h1, h2, cond_true, cond_false] <;> rfl)
    · refine zeP rfl rfl ?_
      refine zeInc rfl rfl ?_
      refine zeP rfl rfl ?_
      simp only [l_drawnOne, h1, cond_true, cond_false]
      exact ih (a) ((k + 1))   (by first | exact zq_adn (by decide) | exact zq_adr (zq_adn (by decide)) | omega) 
noncomputable def q_drawnOne (W : Nat → Int32) : Int32 × (Nat → Int32) := ((l_drawnOne ((q_drawOf W (((q_threads W) - (q_bits ((q_doneOnes W)))))).2) ((nv W 9)) ((nv W 9)) ((q_drawOf W (((q_threads W) - (q_bits ((q_doneOnes W)))))).1) 0), (q_drawOf W (((q_threads W) - (q_bits ((q_doneOnes W)))))).2)
theorem p_drawnOne {σ : Nat → Nat × (Nat → Int32)} {yy : (Nat → Nat → Int64) × Bool × Nat × Nat} {m : Nat → Nat → Int32} {W : Nat → Int32} {d : Nat} (hd : 5 ≤ d + 1) (hN : W 9 = Int32.ofNat (nv W 9)) (hN4 : nv W 9 ≤ 4) (hD : ¬ (q_threads W - q_bits (q_doneOnes W)) = 0) : zEv σ (d + 1) 1840 0 [some (.ref 137), none, none] [] (zS1, zrow m 138 W, yy) (.inl (some (.int (q_drawnOne W).1))) (zS1, zrow m 138 ((q_drawnOne W).2), yy) := by
  refine zeP rfl rfl ?_
  refine zeP rfl rfl ?_
  refine zeCF rfl rfl rfl rfl rfl rfl (c_threads (m := m) (W := W)  ) (by first | exact zq_adn (by decide) | exact zq_adr (zq_adn (by decide)) | omega) ?_
  dsimp only [Option.toList, List.cons_append, List.nil_append]
  refine zeP rfl rfl ?_
  refine zeCF rfl rfl rfl rfl rfl rfl (c_doneOnes (m := m) (W := W)  hN hN4) (by first | exact zq_adn (by decide) | exact zq_adr (zq_adn (by decide)) | omega) ?_
  dsimp only [Option.toList, List.cons_append, List.nil_append]
  refine zeCF rfl rfl rfl rfl rfl rfl (c_bits (m := m) (W := W) (s := (q_doneOnes W)) ) (by first | exact zq_adn (by decide) | exact zq_adr (zq_adn (by decide)) | omega) ?_
  dsimp only [Option.toList, List.cons_append, List.nil_append]
  refine zeP rfl rfl ?_
  refine zeCF rfl rfl rfl rfl rfl rfl (c_drawOf (m := m) (W := W) (b := ((q_threads W) - (q_bits ((q_doneOnes W))))) hD) (by first | exact zq_adn (by decide) | exact zq_adr (zq_adn (by decide)) | omega) ?_
  dsimp only [Option.toList, List.cons_append, List.nil_append]
  refine zeP rfl rfl ?_
  refine zeKn (c := 0) rfl rfl rfl ?_
  refine zeP rfl rfl ?_
  simp only [q_drawnOne, cond_true, cond_false]
  exact w_drawnOne (n9 := (nv W 9)) (W := (q_drawOf W (((q_threads W) - (q_bits ((q_doneOnes W)))))).2) (m := m) (by first | exact zq_adn (by decide) | exact zq_adr (zq_adn (by decide)) | omega) (by simp (disch := first | exact zq_adn (by decide) | exact zq_adr (zq_adn (by decide)) | omega) only [q_drawOf, upd_ne]; exact hN) hN4 ((nv W 9)) ((q_drawOf W (((q_threads W) - (q_bits ((q_doneOnes W)))))).1) (0)   (by first | exact zq_adn (by decide) | exact zq_adr (zq_adn (by decide)) | omega) 
theorem c_drawnOne {σ : Nat → Nat × (Nat → Int32)} {yy : (Nat → Nat → Int64) × Bool × Nat × Nat} {m : Nat → Nat → Int32} {W : Nat → Int32} (hN : W 9 = Int32.ofNat (nv W 9)) (hN4 : nv W 9 ≤ 4) (hD : ¬ (q_threads W - q_bits (q_doneOnes W)) = 0) : zF σ 5 1840 [.ref 137] (zS1, zrow m 138 W, yy) (.inl (some (.int (q_drawnOne W).1))) (zS1, zrow m 138 ((q_drawnOne W).2), yy) := by
  intro d hd
  obtain ⟨d, rfl⟩ : ∃ k, d = k + 1 := ⟨d - 1, by omega⟩
  exact p_drawnOne hd hN hN4 hD
