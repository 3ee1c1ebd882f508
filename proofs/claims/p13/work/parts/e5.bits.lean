/-! bits of a set -/
noncomputable def rbt (x : Int32) (i : Nat) : Bool := x.toBitVec.getLsbD i
theorem rb_or (x y : Int32) (i : Nat) : rbt (x ||| y) i = (rbt x i || rbt y i) := by unfold rbt; rw [Int32.toBitVec_or, BitVec.getLsbD_or]
theorem rb_and (x y : Int32) (i : Nat) : rbt (x &&& y) i = (rbt x i && rbt y i) := by unfold rbt; rw [Int32.toBitVec_and, BitVec.getLsbD_and]
theorem rb_ext {x y : Int32} (h : ∀ i, i < 32 → rbt x i = rbt y i) : x = y := Int32.toBitVec_inj.mp (BitVec.eq_of_getLsbD_eq (fun i hi => h i hi))
theorem rs_l : ∀ n, n < 32 → ((Int32.ofNat n &&& 31).toBitVec.smod 32).toNat = n := by decide +kernel
theorem rs_u : ∀ n, n < 32 → (((Int32.ofNat n).toUInt32 &&& Int32.toUInt32 31).toBitVec % 32).toNat = n := by decide +kernel
theorem rb_shl (n : Nat) (hn : n < 32) (x : Int32) {i : Nat} (hi : i < 32) : rbt (x <<< (Int32.ofNat n &&& 31)) i = (decide (n ≤ i) && rbt x (i - n)) := by
  unfold rbt
  rw [Int32.toBitVec_shiftLeft]
  show (x.toBitVec <<< ((Int32.ofNat n &&& 31).toBitVec.smod 32).toNat).getLsbD i = _
  rw [rs_l n hn, BitVec.getLsbD_shiftLeft]
  rcases Nat.lt_or_ge i n with h | h
  · simp [h, Nat.not_le.mpr h]
  · simp [hi, h, Nat.not_lt.mpr h]
theorem rb_ushr (n : Nat) (hn : n < 32) (x : Int32) (i : Nat) : rbt ((x.toUInt32 >>> ((Int32.ofNat n).toUInt32 &&& Int32.toUInt32 31)).toInt32) i = rbt x (n + i) := by
  show (x.toUInt32 >>> ((Int32.ofNat n).toUInt32 &&& Int32.toUInt32 31)).toBitVec.getLsbD i = x.toUInt32.toBitVec.getLsbD (n + i)
  rw [UInt32.toBitVec_shiftRight]
  show (x.toUInt32.toBitVec >>> (((Int32.ofNat n).toUInt32 &&& Int32.toUInt32 31).toBitVec % 32).toNat).getLsbD i = _
  rw [rs_u n hn, BitVec.getLsbD_ushiftRight]
theorem rb_one : ∀ i, i < 32 → rbt (Int32.ofNat 1) i = decide (i = 0) := by decide +kernel
theorem rb_zero : ∀ i, i < 32 → rbt (Int32.ofNat 0) i = false := by decide +kernel
theorem rb_k {s : Int32} {k : Nat} (hk : k < 32) : zc1 .eq (q_holds s k) = !(rbt s k) := by
  rw [← bit_eq]
  have e0 : rbt ((s.toUInt32 >>> ((Int32.ofNat k).toUInt32 &&& Int32.toUInt32 31)).toInt32 &&& Int32.ofNat 1) 0 = rbt s k := by
    rw [rb_and, rb_ushr k hk, rb_one 0 (by omega), Nat.add_zero]
    simp
  rcases zand1 ((s.toUInt32 >>> ((Int32.ofNat k).toUInt32 &&& Int32.toUInt32 31)).toInt32) with e | e
  · rw [e] at e0 ⊢
    rw [← e0]
    decide
  · rw [e] at e0 ⊢
    rw [← e0]
    decide
theorem hbit_rb {s : Int32} {k : Nat} (hk : k < 32) : hbit s k ↔ rbt s k = true := by
  have h := rb_k (s := s) hk
  unfold hbit
  constructor
  · intro e
    rw [e] at h
    have z : zc1 .eq (Int32.ofNat 1) = false := by decide
    rw [z] at h
    cases hb : rbt s k with
    | true => rfl
    | false => rw [hb] at h; exact absurd h (by decide)
  · intro e
    rw [e] at h
    unfold q_holds at h ⊢
    cases hc : zc2 .ne ((s.toUInt32 >>> ((Int32.ofNat k).toUInt32 &&& Int32.toUInt32 31)).toInt32 &&& Int32.ofNat 1) (Int32.ofNat 1) with
    | true => rw [hc] at h; exact absurd h (by decide)
    | false => rfl
/-- one bit more -/
theorem hbit_or {s : Int32} {w k : Nat} (hw : w < 32) (hk : k < 32) (h : hbit (s ||| (Int32.ofNat 1 <<< (Int32.ofNat w &&& 31))) k) : k = w ∨ hbit s k := by
  rw [hbit_rb hk, rb_or, rb_shl w hw _ hk] at h
  cases hb : rbt s k with
  | true => exact Or.inr ((hbit_rb hk).mpr hb)
  | false =>
    rw [hb, Bool.false_or, Bool.and_eq_true] at h
    have h1 := of_decide_eq_true h.1
    have h2 := h.2
    rw [rb_one _ (by omega)] at h2
    have h3 := of_decide_eq_true h2
    exact Or.inl (by omega)
