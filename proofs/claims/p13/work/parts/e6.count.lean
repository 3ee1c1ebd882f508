/-! how many bits: two ways of counting -/
noncomputable def hit : Nat → Nat → Nat
  | 0, n => n
  | a + 1, n => hit a (n / 2)
noncomputable def cnt : Nat → Nat → Nat
  | 0, _ => 0
  | a + 1, n => n % 2 + cnt a (n / 2)
theorem hit_s : ∀ (a n : Nat), hit (a + 1) n = hit a n / 2 := by
  intro a
  induction a with
  | zero => intro n; rfl
  | succ a ih => intro n; exact ih (n / 2)
theorem hit_d : ∀ (a n : Nat), hit a n = n / 2 ^ a := by
  intro a
  induction a with
  | zero => intro n; rw [Nat.pow_zero, Nat.div_one]; rfl
  | succ a ih => intro n; rw [hit_s, ih, Nat.div_div_eq_div_mul, Nat.pow_succ]
theorem cnt_add : ∀ (a c n : Nat), cnt (a + c) n = cnt a n + cnt c (hit a n) := by
  intro a
  induction a with
  | zero => intro c n; rw [Nat.zero_add]; exact (Nat.zero_add _).symm
  | succ a ih =>
    intro c n
    rw [show a + 1 + c = (a + c) + 1 by omega]
    show n % 2 + cnt (a + c) (n / 2) = n % 2 + cnt a (n / 2) + cnt c (hit a (n / 2))
    rw [ih, Nat.add_assoc]
noncomputable def dg2 : Nat → Nat → Nat
  | 0, _ => 0
  | m + 1, n => cnt 2 n + 4 * dg2 m (hit 2 n)
noncomputable def dg4 : Nat → Nat → Nat
  | 0, _ => 0
  | m + 1, n => cnt 4 n + 16 * dg4 m (hit 4 n)
noncomputable def dg8 : Nat → Nat → Nat
  | 0, _ => 0
  | m + 1, n => cnt 8 n + 256 * dg8 m (hit 8 n)
noncomputable def mk2 : Nat → Nat
  | 0 => 0
  | m + 1 => 4 * mk2 m + 1
noncomputable def mk4 : Nat → Nat
  | 0 => 0
  | m + 1 => 16 * mk4 m + 3
noncomputable def mk8 : Nat → Nat
  | 0 => 0
  | m + 1 => 256 * mk8 m + 15
theorem landp (i : Nat) {a c : Nat} (x y : Nat) (ha : a < 2 ^ i) (hc : c < 2 ^ i) : (2 ^ i * x + a) &&& (2 ^ i * y + c) = 2 ^ i * (x &&& y) + (a &&& c) := by
  apply Nat.eq_of_testBit_eq
  intro j
  rw [Nat.testBit_and, Nat.testBit_two_pow_mul_add _ ha, Nat.testBit_two_pow_mul_add _ hc, Nat.testBit_two_pow_mul_add _ (Nat.and_lt_two_pow _ hc)]
  by_cases h : j < i
  · rw [if_pos h, if_pos h, if_pos h, Nat.testBit_and]
  · rw [if_neg h, if_neg h, if_neg h, Nat.testBit_and]
theorem land4 {d : Nat} (x y : Nat) (h : d < 4) : (4 * x + d) &&& (4 * y + 1) = 4 * (x &&& y) + d % 2 := by
  have q := landp 2 (a := d) (c := 1) x y h (by decide)
  rw [show d &&& 1 = d % 2 from Nat.and_two_pow_sub_one_eq_mod d 1] at q
  exact q
theorem land16 {d : Nat} (x y : Nat) (h : d < 16) : (16 * x + d) &&& (16 * y + 3) = 16 * (x &&& y) + d % 4 := by
  have q := landp 4 (a := d) (c := 3) x y h (by decide)
  rw [show d &&& 3 = d % 4 from Nat.and_two_pow_sub_one_eq_mod d 2] at q
  exact q
theorem land256 {d : Nat} (x y : Nat) (h : d < 256) : (256 * x + d) &&& (256 * y + 15) = 256 * (x &&& y) + d % 16 := by
  have q := landp 8 (a := d) (c := 15) x y h (by decide)
  rw [show d &&& 15 = d % 16 from Nat.and_two_pow_sub_one_eq_mod d 4] at q
  exact q
theorem cnt2 (n : Nat) : cnt 2 n = n % 2 + n / 2 % 2 := rfl
theorem hit2 (n : Nat) : hit 2 n = n / 2 / 2 := rfl
theorem st2 : ∀ (m n : Nat), n < 4 ^ m → n = dg2 m n + ((n / 2) &&& mk2 m) := by
  intro m
  induction m with
  | zero =>
    intro n h
    have h0 : n < 1 := h
    have : n = 0 := by omega
    subst this
    rfl
  | succ m ih =>
    intro n h
    have hp : 4 ^ (m + 1) = 4 ^ m * 4 := Nat.pow_succ _ _
    have h1 := ih (n / 2 / 2) (by omega)
    have e : n / 2 = 4 * (n / 2 / 2 / 2) + (n / 2 % 2 + 2 * (n / 2 / 2 % 2)) := by omega
    have a : (n / 2) &&& mk2 (m + 1) = 4 * ((n / 2 / 2 / 2) &&& mk2 m) + (n / 2 % 2 + 2 * (n / 2 / 2 % 2)) % 2 := by
      show (n / 2) &&& (4 * mk2 m + 1) = _
      rw [← land4 _ _ (by omega), ← e]
    rw [a]
    show n = n % 2 + (n / 2 % 2 + 0) + 4 * dg2 m (n / 2 / 2) + _
    generalize (n / 2 / 2 / 2) &&& mk2 m = z at h1 ⊢
    generalize dg2 m (n / 2 / 2) = y at h1 ⊢
    omega
theorem st4 : ∀ (m n : Nat), (dg2 (2 * m) n &&& mk4 m) + ((dg2 (2 * m) n / 4) &&& mk4 m) = dg4 m n := by
  intro m
  induction m with
  | zero => intro n; rw [mk4, dg4, Nat.and_zero, Nat.and_zero]
  | succ m ih =>
    intro n
    have h1 := ih (hit 4 n)
    have e : dg2 (2 * (m + 1)) n = 16 * dg2 (2 * m) (hit 4 n) + (cnt 2 n + 4 * cnt 2 (hit 2 n)) := by
      show cnt 2 n + 4 * (cnt 2 (hit 2 n) + 4 * dg2 (2 * m) (hit 4 n)) = _
      omega
    have c4 : cnt 4 n = cnt 2 n + cnt 2 (hit 2 n) := cnt_add 2 2 n
    have b1 : cnt 2 n ≤ 2 := by rw [cnt2]; omega
    have b2 : cnt 2 (hit 2 n) ≤ 2 := by rw [cnt2]; omega
    show (dg2 (2 * (m + 1)) n &&& (16 * mk4 m + 3)) + ((dg2 (2 * (m + 1)) n / 4) &&& (16 * mk4 m + 3)) = cnt 4 n + 16 * dg4 m (hit 4 n)
    rw [e, c4, ← h1]
    generalize cnt 2 n = p at b1 ⊢
    generalize cnt 2 (hit 2 n) = q at b2 ⊢
    generalize dg2 (2 * m) (hit 4 n) = X
    have e2 : (16 * X + (p + 4 * q)) / 4 = 16 * (X / 4) + (q + 4 * (X % 4)) := by omega
    rw [e2, land16 _ _ (by omega), land16 _ _ (by omega)]
    generalize X &&& mk4 m = y
    generalize (X / 4) &&& mk4 m = z
    omega
theorem cnt4_le (n : Nat) : cnt 4 n ≤ 4 := by
  have e : cnt 4 n = cnt 2 n + cnt 2 (hit 2 n) := cnt_add 2 2 n
  have b1 : cnt 2 n ≤ 2 := by rw [cnt2]; omega
  have b2 : cnt 2 (hit 2 n) ≤ 2 := by rw [cnt2]; omega
  omega
theorem dg4_m : ∀ (m n : Nat), dg4 m n % 16 ≤ 4 := by
  intro m n
  cases m with
  | zero => exact Nat.zero_le _
  | succ m =>
    show (cnt 4 n + 16 * dg4 m (hit 4 n)) % 16 ≤ 4
    have := cnt4_le n
    omega
theorem st8 : ∀ (m n : Nat), (dg4 (2 * m) n + dg4 (2 * m) n / 16) &&& mk8 m = dg8 m n := by
  intro m
  induction m with
  | zero => intro n; rw [mk8, dg8, Nat.and_zero]
  | succ m ih =>
    intro n
    have h1 := ih (hit 8 n)
    have e : dg4 (2 * (m + 1)) n = 256 * dg4 (2 * m) (hit 8 n) + (cnt 4 n + 16 * cnt 4 (hit 4 n)) := by
      show cnt 4 n + 16 * (cnt 4 (hit 4 n) + 16 * dg4 (2 * m) (hit 8 n)) = _
      omega
    have c8 : cnt 8 n = cnt 4 n + cnt 4 (hit 4 n) := cnt_add 4 4 n
    have b1 := cnt4_le n
    have b2 := cnt4_le (hit 4 n)
    have b3 := dg4_m (2 * m) (hit 8 n)
    show (dg4 (2 * (m + 1)) n + dg4 (2 * (m + 1)) n / 16) &&& (256 * mk8 m + 15) = cnt 8 n + 256 * dg8 m (hit 8 n)
    rw [e, c8, ← h1]
    generalize cnt 4 n = p at b1 ⊢
    generalize cnt 4 (hit 4 n) = q at b2 ⊢
    generalize dg4 (2 * m) (hit 8 n) = X at b3 ⊢
    have e2 : 256 * X + (p + 16 * q) + (256 * X + (p + 16 * q)) / 16 = 256 * (X + X / 16) + (p + q + 16 * (q + X % 16)) := by omega
    rw [e2, land256 _ _ (by omega)]
    generalize (X + X / 16) &&& mk8 m = y
    omega
/-- the class's way, in numbers -/
noncomputable def pcn (n : Nat) : Nat :=
  let i1 := n - ((n / 2) &&& 1431655765)
  let i2 := (i1 &&& 858993459) + ((i1 / 4) &&& 858993459)
  let i3 := (i2 + i2 / 16) &&& 252645135
  let i4 := i3 + i3 / 256
  let i5 := i4 + i4 / 65536
  i5 &&& 63
theorem cnt8_le (n : Nat) : cnt 8 n ≤ 8 := by
  have e : cnt 8 n = cnt 4 n + cnt 4 (hit 4 n) := cnt_add 4 4 n
  have b1 := cnt4_le n
  have b2 := cnt4_le (hit 4 n)
  omega
theorem pcn_eq {n : Nat} (h : n < 4294967296) : pcn n = cnt 32 n := by
  have k2 : mk2 16 = 1431655765 := by decide
  have k4 : mk4 8 = 858993459 := by decide
  have k8 : mk8 4 = 252645135 := by decide
  have a1 : n - ((n / 2) &&& 1431655765) = dg2 16 n := by
    have q := st2 16 n h
    rw [k2] at q
    omega
  have a2 : (dg2 16 n &&& 858993459) + ((dg2 16 n / 4) &&& 858993459) = dg4 8 n := by rw [← k4]; exact st4 8 n
  have a3 : (dg4 8 n + dg4 8 n / 16) &&& 252645135 = dg8 4 n := by rw [← k8]; exact st8 4 n
  have e8 : dg8 4 n = cnt 8 n + 256 * (cnt 8 (hit 8 n) + 256 * (cnt 8 (hit 16 n) + 256 * (cnt 8 (hit 24 n) + 256 * 0))) := rfl
  have c1 : cnt 32 n = cnt 8 n + cnt 24 (hit 8 n) := cnt_add 8 24 n
  have c2 : cnt 24 (hit 8 n) = cnt 8 (hit 8 n) + cnt 16 (hit 16 n) := cnt_add 8 16 (hit 8 n)
  have c3 : cnt 16 (hit 16 n) = cnt 8 (hit 16 n) + cnt 8 (hit 24 n) := cnt_add 8 8 (hit 16 n)
  have b1 := cnt8_le n
  have b2 := cnt8_le (hit 8 n)
  have b3 := cnt8_le (hit 16 n)
  have b4 := cnt8_le (hit 24 n)
  unfold pcn
  dsimp only
  rw [a1, a2, a3, e8, c1, c2, c3]
  generalize cnt 8 n = p at b1 ⊢
  generalize cnt 8 (hit 8 n) = q at b2 ⊢
  generalize cnt 8 (hit 16 n) = r at b3 ⊢
  generalize cnt 8 (hit 24 n) = s at b4 ⊢
  have m6 : ∀ x : Nat, x &&& 63 = x % 64 := fun x => Nat.and_two_pow_sub_one_eq_mod x 6
  rw [m6]
  have f1 : (p + 256 * (q + 256 * (r + 256 * (s + 256 * 0)))) / 256 = q + 256 * (r + 256 * s) := by omega
  rw [f1]
  have f2 : (p + 256 * (q + 256 * (r + 256 * (s + 256 * 0))) + (q + 256 * (r + 256 * s))) / 65536 = r + s + 256 * s := by omega
  rw [f2]
  omega
/-! numbers for sets -/
theorem rbt_on (n : Nat) {i : Nat} (hi : i < 32) : rbt (Int32.ofNat n) i = n.testBit i := by
  show (BitVec.ofNat 32 n).getLsbD i = _
  rw [BitVec.getLsbD_ofNat]
  simp [hi]
theorem i_and (a c : Nat) : Int32.ofNat a &&& Int32.ofNat c = Int32.ofNat (a &&& c) := by
  apply rb_ext
  intro i hi
  rw [rb_and, rbt_on _ hi, rbt_on _ hi, rbt_on _ hi, Nat.testBit_and]
theorem i_shr {n k : Nat} (hn : n < 4294967296) (hk : k < 32) : ((Int32.ofNat n).toUInt32 >>> ((Int32.ofNat k).toUInt32 &&& Int32.toUInt32 31)).toInt32 = Int32.ofNat (n / 2 ^ k) := by
  apply rb_ext
  intro i hi
  rw [rb_ushr k hk, rbt_on _ hi, Nat.testBit_div_two_pow]
  by_cases h : k + i < 32
  · rw [rbt_on _ h, Nat.add_comm]
  · have h1 : rbt (Int32.ofNat n) (k + i) = false := BitVec.getLsbD_of_ge _ _ (by omega)
    rw [h1]
    symm
    apply Nat.testBit_lt_two_pow
    have q : 2 ^ 32 ≤ 2 ^ (i + k) := Nat.pow_le_pow_right (by decide) (by omega)
    exact Nat.lt_of_lt_of_le (show n < 2 ^ 32 from hn) q
theorem i_sub {a c : Nat} (h : c ≤ a) : Int32.ofNat a - Int32.ofNat c = Int32.ofNat (a - c) := by
  have e : Int32.ofNat a = Int32.ofNat (a - c) + Int32.ofNat c := by
    rw [← Int32.ofNat_add, show a - c + c = a by omega]
  rw [e, Int32.add_sub_cancel]
theorem i_add (a c : Nat) : Int32.ofNat a + Int32.ofNat c = Int32.ofNat (a + c) := (Int32.ofNat_add _ _).symm
theorem bc_on {n : Nat} (hn : n < 4294967296) : x_bitCount (Int32.ofNat n) = Int32.ofNat (pcn n) := by
  have p1 : 2 ^ 1 = 2 := rfl
  have p2 : 2 ^ 2 = 4 := rfl
  have p4 : 2 ^ 4 = 16 := rfl
  have p8 : 2 ^ 8 = 256 := rfl
  have p16 : 2 ^ 16 = 65536 := rfl
  have k2 : mk2 16 = 1431655765 := by decide
  have k4 : mk4 8 = 858993459 := by decide
  have k8 : mk8 4 = 252645135 := by decide
  have le1 : (n / 2) &&& 1431655765 ≤ n := Nat.le_trans Nat.and_le_left (by omega)
  have a1 : n - ((n / 2) &&& 1431655765) = dg2 16 n := by
    have q := st2 16 n hn
    rw [k2] at q
    omega
  have a2 : (dg2 16 n &&& 858993459) + ((dg2 16 n / 4) &&& 858993459) = dg4 8 n := by rw [← k4]; exact st4 8 n
  have a3 : (dg4 8 n + dg4 8 n / 16) &&& 252645135 = dg8 4 n := by rw [← k8]; exact st8 4 n
  have l1 : dg2 16 n < 4294967296 := by rw [← a1]; omega
  have l2 : dg4 8 n < 4294967296 := by
    rw [← a2]
    have q1 : dg2 16 n &&& 858993459 ≤ 858993459 := Nat.and_le_right
    have q2 : (dg2 16 n / 4) &&& 858993459 ≤ 858993459 := Nat.and_le_right
    omega
  have l3 : dg8 4 n ≤ 252645135 := by rw [← a3]; exact Nat.and_le_right
  unfold x_bitCount
  simp only [i_shr hn (show 1 < 32 by omega), i_and, p1]
  rw [i_sub le1, a1]
  simp only [i_shr l1 (show 2 < 32 by omega), i_and, p2, i_add]
  rw [a2]
  simp only [i_shr l2 (show 4 < 32 by omega), i_and, p4, i_add]
  rw [a3]
  simp only [i_shr (show dg8 4 n < 4294967296 by omega) (show 8 < 32 by omega), p8, i_add]
  simp only [i_shr (show dg8 4 n + dg8 4 n / 256 < 4294967296 by omega) (show 16 < 32 by omega), p16, i_add, i_and]
  unfold pcn
  dsimp only
  rw [a1, a2, a3]
theorem bit_on {n k : Nat} (hn : n < 4294967296) (hk : k < 32) : ((Int32.ofNat n).toUInt32 >>> ((Int32.ofNat k).toUInt32 &&& Int32.toUInt32 31)).toInt32 &&& Int32.ofNat 1 = Int32.ofNat (hit k n % 2) := by
  rw [i_shr hn hk, i_and, hit_d, show (n / 2 ^ k) &&& 1 = n / 2 ^ k % 2 from Nat.and_two_pow_sub_one_eq_mod _ 1]
theorem lbits_on {n : Nat} (hn : n < 4294967296) : ∀ (j a k : Nat), k + j = 32 → l_bits (Int32.ofNat n) j (Int32.ofNat a) k = Int32.ofNat (a + cnt j (hit k n)) := by
  intro j
  induction j with
  | zero => intro a k _; rfl
  | succ j ih =>
    intro a k hk
    rw [l_bits, bit_on hn (by omega), i_add, ih _ _ (by omega), hit_s]
    show Int32.ofNat (a + hit k n % 2 + cnt j (hit k n / 2)) = Int32.ofNat (a + (hit k n % 2 + cnt j (hit k n / 2)))
    rw [Nat.add_assoc]
theorem nat_of (x : Int32) : ∃ n, n < 4294967296 ∧ x = Int32.ofNat n := ⟨x.toBitVec.toNat, x.toBitVec.isLt, Int32.toBitVec_inj.mp (by show _ = BitVec.ofNat 32 _; simp)⟩
theorem bitCount_eq (x : Int32) : x_bitCount x = q_bits x := by
  obtain ⟨n, hn, e⟩ := nat_of x
  rw [e, bc_on hn, pcn_eq hn]
  unfold q_bits
  rw [lbits_on hn 32 0 0 rfl, Nat.zero_add]
  rfl
