/-! blanks, letters, signs, numbers read alike -/
/-- the two tapes are alike -/
noncomputable def PA (T : Nat → Int32) (e : Nat) (mm : Nat → Nat → Int32) : Prop := pe mm = e ∧ e ≤ 400 ∧ ∀ p, p < e → mm 141 p = T p
theorem zlg_ne (x y : Int32) : (bif zc2 .lt x y then Int32.ofNat 0 else bif zc2 .gt x y then Int32.ofNat 0 else Int32.ofNat 1) = (bif zc2 .ne x y then Int32.ofNat 0 else Int32.ofNat 1) := by
  have e1 : zc2 .lt x y = decide (x < y) := rfl
  have e2 : zc2 .gt x y = decide (y < x) := rfl
  rw [zne2_n]
  have e3 : zc2 .eq x y = decide (x = y) := rfl
  rw [e1, e2, e3]
  by_cases q : x = y
  · subst q
    have h : ¬ x < x := by rw [Int32.lt_iff_toInt_lt]; omega
    rw [decide_eq_false h, decide_eq_true rfl]; rfl
  · rw [decide_eq_false q]
    have hn : x.toInt ≠ y.toInt := fun h => q (Int32.toInt_inj.mp h)
    by_cases q2 : x < y
    · rw [decide_eq_true q2]; rfl
    · have q3 : y < x := by rw [Int32.lt_iff_toInt_lt] at q2 ⊢; omega
      rw [decide_eq_false q2, decide_eq_true q3]; rfl
section ZPA
variable {T : Nat → Int32} {e : Nat} {mm : Nat → Nat → Int32}
theorem isAt_eq {p : Nat} {lo hi : Int32} (h : PA T e mm) (hp : p ≤ 400) : q_isAt mm p lo hi = (bif zc2 .ge (Int32.ofNat p) (Int32.ofNat e) then Int32.ofNat 0 else bif zc2 .lt (T p) lo then Int32.ofNat 0 else bif zc2 .gt (T p) hi then Int32.ofNat 0 else Int32.ofNat 1) := by
  have h2 := h.2.1
  unfold q_isAt
  rw [h.1]
  by_cases q : e ≤ p
  · rw [zcge (by omega) (by omega) q, cnT, cnT]
  · rw [h.2.2 p (by omega)]
theorem isAt_one {p : Nat} {c : Int32} (h : PA T e mm) (hp : p ≤ 400) : q_isAt mm p c c = (bif zc2 .ge (Int32.ofNat p) (Int32.ofNat e) then Int32.ofNat 0 else bif zc2 .ne (T p) c then Int32.ofNat 0 else Int32.ofNat 1) := by
  rw [isAt_eq h hp, zlg_ne]
theorem look_eq (h : PA T e mm) : ∀ (n p : Nat), p + n ≤ 400 → yl_look T e n p = l_blanks mm n p := by
  intro n
  induction n with
  | zero => intro p _; rfl
  | succ n ih =>
    intro p hp
    rw [yl_look, l_blanks, isAt_one h (by omega), ih _ (by omega)]
    cases zc2 .ge (Int32.ofNat p) (Int32.ofNat e) with
    | true => rfl
    | false => cases zc2 .ne (T p) (Int32.ofNat 32) <;> rfl
theorem lk_eq {p : Nat} (h : PA T e mm) (hp : p ≤ e) : lkB T e p = skB mm p := by
  have h2 := h.2.1
  unfold lkB skB
  rw [look_eq h _ _ (by omega), h.1]
theorem sign_eq {p c : Nat} (h : PA T e mm) (hp : p ≤ e) : q_passesSign mm p c = ((y_skipSign T e (lkB T e p) c).1, (y_skipSign T e (lkB T e p) c).2, lkB T e p) := by
  have h2 := h.2.1
  have h3 := lkB_le (T := T) h2 hp
  unfold q_passesSign y_skipSign
  rw [← lk_eq h hp, isAt_one h (by omega)]
  cases zc2 .ge (Int32.ofNat (lkB T e p)) (Int32.ofNat e) with
  | true => rfl
  | false => cases zc2 .ne (T (lkB T e p)) (Int32.ofNat c) <;> rfl
theorem nameA_eq {b s : Nat} (h : PA T e mm) : ∀ (n p : Nat), p + n ≤ 400 → yl_nameA T e b s n p = (yl_name T (l_letters mm n p) b s ((zby s).length + 1) 0 b (Int32.ofNat 0) 0, l_letters mm n p) := by
  intro n
  induction n with
  | zero => intro p _; rfl
  | succ n ih =>
    intro p hp
    rw [yl_nameA, l_letters, isAt_eq h (by omega), ih _ (by omega)]
    cases zc2 .ge (Int32.ofNat p) (Int32.ofNat e) with
    | true => rfl
    | false =>
      cases zc2 .lt (T p) (Int32.ofNat 97) with
      | true => rfl
      | false => cases zc2 .gt (T p) (Int32.ofNat 122) <;> rfl
theorem name_eq {p s : Nat} (h : PA T e mm) (hp : p ≤ e) (hl : (zby s).length < 100000) : y_readName T e p s = (nmF T (q_letters mm p).1 (q_letters mm p).2 (zby s) 0 (q_letters mm p).2 (Int32.ofNat 0), (q_letters mm p).1, (q_letters mm p).2) := by
  have h2 := h.2.1
  have h3 := lkB_le (T := T) h2 hp
  unfold y_readName q_letters
  rw [nameA_eq h _ _ (by omega), nmF_eq hl _ _ _ _ _ (by omega) (by omega), lk_eq h hp, h.1, List.drop_zero]
theorem dig_eq (v x : Int32) : Int32.ofNat 10 * v + x - Int32.ofNat 48 = v * Int32.ofNat 10 + (x - Int32.ofNat 48) := by
  rw [Int32.sub_eq_add_neg, Int32.sub_eq_add_neg, Int32.add_assoc, Int32.mul_comm]
theorem num_end {b p : Nat} {v lo hi : Int32} (hb : b ≤ p) (hp : p ≤ 400) : (bif zc2 .lt (Int32.ofNat (p - b)) (Int32.ofNat 1) then ((-1 : Int32), p) else bif zc2 .gt (Int32.ofNat (p - b)) (Int32.ofNat 4) then (-1, p) else bif zc2 .lt v lo then (-1, p) else bif zc2 .gt v hi then (-1, p) else (v, p)) = (bif zc2 .eq (Int32.ofNat p) (Int32.ofNat b) then (-1, p) else bif zc2 .gt (Int32.ofNat (p - b)) (Int32.ofNat 4) then (-1, p) else bif zc2 .lt v lo then (-1, p) else bif zc2 .le v hi then (v, p) else (-1, p)) := by
  have e1 : zc2 .lt (Int32.ofNat (p - b)) (Int32.ofNat 1) = zc2 .eq (Int32.ofNat p) (Int32.ofNat b) := by
    rw [zceq_n (by omega) (by omega)]
    by_cases q : p = b
    · rw [zclt (by omega) (by omega) (by omega), decide_eq_true q]
    · rw [zclt_f (by omega) (by omega) (by omega), decide_eq_false q]
  have e2 : zc2 .gt v hi = !(zc2 .le v hi) := by
    have a1 : zc2 .gt v hi = decide (hi < v) := rfl
    have a2 : zc2 .le v hi = decide (v ≤ hi) := rfl
    rw [a1, a2, ← decide_not]
    refine decide_eq_decide.mpr ?_
    rw [Int32.lt_iff_toInt_lt, Int32.le_iff_toInt_le]
    omega
  rw [e1, e2]
  cases zc2 .le v hi <;> rfl
theorem numL_eq {b : Nat} {lo hi : Int32} (h : PA T e mm) : ∀ (n : Nat) (v : Int32) (p : Nat), p + n ≤ 400 → b ≤ p → yl_num T e b lo hi n v p = l_number mm b lo hi n v p := by
  intro n
  induction n with
  | zero => intro v p hp hb; exact num_end hb (by omega)
  | succ n ih =>
    intro v p hp hb
    rw [yl_num, l_number, isAt_eq h (by omega), ih _ _ (by omega) (by omega), ih _ _ (by omega) (by omega), num_end hb (by omega)]
    by_cases q : e ≤ p
    · rw [zcge (by omega) (by have := h.2.1; omega) q]; rfl
    · rw [zcge_f (by omega) (by have := h.2.1; omega) (by omega), h.2.2 p (by omega), dig_eq]
      cases zc2 .lt (T p) (Int32.ofNat 48) with
      | true => rfl
      | false => cases zc2 .gt (T p) (Int32.ofNat 57) <;> rfl
theorem number_eq {p : Nat} {lo hi : Int32} (h : PA T e mm) (hp : p ≤ e) : y_readNumber T e p lo hi = q_number mm p lo hi := by
  have h2 := h.2.1
  have h3 := lkB_le (T := T) h2 hp
  unfold y_readNumber q_number
  rw [numL_eq h _ _ _ (by omega) (Nat.le_refl _), lk_eq h hp, h.1]
end ZPA
