/-! what is asked of programs, alike -/
noncomputable def orL (g : Nat → Int32) : Nat → Int32 → Nat → Int32
  | 0, s, _ => s
  | n + 1, s, k => orL g n (s ||| g k) (k + 1)
theorem orz2 (s : Int32) : Int32.ofNat 0 ||| s = s := Int32.zero_or
theorem orL_s (g : Nat → Int32) : ∀ (n : Nat) (s : Int32) (k : Nat), orL g n s k = s ||| orL g n (Int32.ofNat 0) k := by
  intro n
  induction n with
  | zero => intro s k; exact (orz s).symm
  | succ n ih =>
    intro s k
    rw [orL, orL, ih (s ||| g k), ih (Int32.ofNat 0 ||| g k), orz2, Int32.or_assoc]
theorem orL_or (g f : Nat → Int32) : ∀ (n : Nat) (k : Nat), orL g n (Int32.ofNat 0) k ||| orL f n (Int32.ofNat 0) k = orL (fun j => g j ||| f j) n (Int32.ofNat 0) k := by
  intro n
  induction n with
  | zero => intro k; exact orz _
  | succ n ih =>
    intro k
    rw [orL, orL, orL, orz2, orz2, orz2, orL_s g n, orL_s f n, orL_s (fun j => g j ||| f j) n, ← ih (k + 1)]
    rw [Int32.or_assoc, Int32.or_assoc, ← Int32.or_assoc (orL g n (Int32.ofNat 0) (k + 1)), Int32.or_comm (orL g n (Int32.ofNat 0) (k + 1)) (f k), Int32.or_assoc]
theorem orL_e {g f : Nat → Int32} : ∀ (n : Nat) (s : Int32) (k : Nat), (∀ j, k ≤ j → j < k + n → g j = f j) → orL g n s k = orL f n s k := by
  intro n
  induction n with
  | zero => intro s k _; rfl
  | succ n ih =>
    intro s k h
    rw [orL, orL, h k (by omega) (by omega)]
    exact ih _ _ (fun j h1 h2 => h j (by omega) (by omega))
/-- the block of a deed, if it is of a kind -/
noncomputable def gK (W : Nat → Int32) (T J k : Nat) : Int32 := bif Nat.beq (nv W (376 + 103 * T + (55 + 2 * k))) J then q_blockOf W (Int32.ofNat (nv W (376 + 103 * T + (55 + 2 * k + 1)))) else Int32.ofNat 0
noncomputable def gL (W : Nat → Int32) (T J k : Nat) : Int32 := bif Nat.beq (nv W (376 + 103 * T + (55 + 2 * k))) J then q_blockOf W (W (16 + nv W (376 + 103 * T + (55 + 2 * k + 1)))) else Int32.ofNat 0
noncomputable def gR (W : Nat → Int32) (T : Nat) (a b c : Int32) (k : Nat) : Int32 := ((bif zc1 .ne b then gK W T 2 k else Int32.ofNat 0) ||| (bif zc1 .ne a then gK W T 3 k else Int32.ofNat 0)) ||| (bif zc1 .ne c then gL W T 0 k ||| gL W T 1 k else Int32.ofNat 0)
theorem zne_b {n J : Nat} (hn : n < 100000) (hJ : J < 100000) : zc2 .ne (Int32.ofNat n) (Int32.ofNat J) = !(Nat.beq n J) := by
  rw [zne2_n]
  have e : zc2 .eq (Int32.ofNat n) (Int32.ofNat J) = decide (Int32.ofNat n = Int32.ofNat J) := rfl
  rw [e, dkn hn hJ]
section ZAJ
variable {m : Nat → Nat → Int32} {t x u : Int32} {T : Nat}
theorem dk (h : LR m) (ht : T < nv (m 138) 9) (ht4 : T < 4) {k : Nat} (hk : k < nv (m 138) (376 + 103 * T + 22)) : mv m (1 + 11 + 7 * T) k = nv (m 138) (376 + 103 * T + (55 + 2 * k)) ∧ mv m (1 + 12 + 7 * T) k = nv (m 138) (376 + 103 * T + (55 + 2 * k + 1)) ∧ nv (m 138) (376 + 103 * T + (55 + 2 * k)) ≤ 7 ∧ (nv (m 138) (376 + 103 * T + (55 + 2 * k)) ≤ 1 → nv (m 138) (376 + 103 * T + (55 + 2 * k + 1)) ≤ 3) := by
  have h24 := (h.1.2.W.2 T ht4).2.2.2.1.2.2
  obtain ⟨d1, d2⟩ := h.1.1.deed ht4 ht hk (by omega)
  obtain ⟨D1, D2, D3, -⟩ := (h.1.2.W.2 T ht4).2.2.2.2.2.2.2 k (by omega)
  refine ⟨?_, ?_, D1.2.2, D3⟩
  · unfold mv nv; rw [d1]
  · unfold mv nv; rw [d2]
theorem blk2_eq (h : LR m) (ht : T < nv (m 138) 9) (ht4 : T < 4) : ∀ (n : Nat) (a : Int32) (k : Nat), k + n = nv (m 138) (376 + 103 * T + 22) → xl_blocksL2 m 1 T n a k = orL (gK (m 138) T 2) n a k := by
  intro n
  induction n with
  | zero => intro a k _; rfl
  | succ n ih =>
    intro a k hk
    obtain ⟨d1, d2, d3, -⟩ := dk h ht ht4 (k := k) (by omega)
    rw [xl_blocksL2, orL, d1, d2, block_eq h.1.1 h.1.2.W, ih _ _ (by omega), ih _ _ (by omega), zne_b (by omega) (by omega), gK]
    cases Nat.beq (nv (m 138) (376 + 103 * T + (55 + 2 * k))) 2 with
    | true => rw [Bool.not_true, cnF, cnT]
    | false => rw [Bool.not_false, cnT, cnF, orz]
theorem blk3_eq (h : LR m) (ht : T < nv (m 138) 9) (ht4 : T < 4) : ∀ (n : Nat) (a : Int32) (k : Nat), k + n = nv (m 138) (376 + 103 * T + 22) → xl_blocksL3 m 1 T n a k = orL (gK (m 138) T 3) n a k := by
  intro n
  induction n with
  | zero => intro a k _; rfl
  | succ n ih =>
    intro a k hk
    obtain ⟨d1, d2, d3, -⟩ := dk h ht ht4 (k := k) (by omega)
    rw [xl_blocksL3, orL, d1, d2, block_eq h.1.1 h.1.2.W, ih _ _ (by omega), ih _ _ (by omega), zne_b (by omega) (by omega), gK]
    cases Nat.beq (nv (m 138) (376 + 103 * T + (55 + 2 * k))) 3 with
    | true => rw [Bool.not_true, cnF, cnT]
    | false => rw [Bool.not_false, cnT, cnF, orz]
theorem lkw (h : LR m) {l : Nat} (hl : l < 4) : m (1 + 5 + l) 0 = m 138 (16 + l) := h.1.1.lkR (by omega) (by omega) (lt4 (P := fun l => cm (16 + l) = (5 + l, 0)) rfl rfl rfl rfl hl)
theorem blk0_eq (h : LR m) (ht : T < nv (m 138) 9) (ht4 : T < 4) : ∀ (n : Nat) (a : Int32) (k : Nat), k + n = nv (m 138) (376 + 103 * T + 22) → xl_blocksL0 m 1 T n a k = orL (gL (m 138) T 0) n a k := by
  intro n
  induction n with
  | zero => intro a k _; rfl
  | succ n ih =>
    intro a k hk
    obtain ⟨d1, d2, d3, d4⟩ := dk h ht ht4 (k := k) (by omega)
    rw [xl_blocksL0, orL, d1, d2, block_eq h.1.1 h.1.2.W, ih _ _ (by omega), ih _ _ (by omega), zne_b (by omega) (by omega), gL]
    cases hb : Nat.beq (nv (m 138) (376 + 103 * T + (55 + 2 * k))) 0 with
    | true =>
      have q := Nat.eq_of_beq_eq_true hb
      rw [Bool.not_true, cnF, cnT, lkw h (by omega)]
    | false => rw [Bool.not_false, cnT, cnF, orz]
theorem blk1_eq (h : LR m) (ht : T < nv (m 138) 9) (ht4 : T < 4) : ∀ (n : Nat) (a : Int32) (k : Nat), k + n = nv (m 138) (376 + 103 * T + 22) → xl_blocksL1 m 1 T n a k = orL (gL (m 138) T 1) n a k := by
  intro n
  induction n with
  | zero => intro a k _; rfl
  | succ n ih =>
    intro a k hk
    obtain ⟨d1, d2, d3, d4⟩ := dk h ht ht4 (k := k) (by omega)
    rw [xl_blocksL1, orL, d1, d2, block_eq h.1.1 h.1.2.W, ih _ _ (by omega), ih _ _ (by omega), zne_b (by omega) (by omega), gL]
    cases hb : Nat.beq (nv (m 138) (376 + 103 * T + (55 + 2 * k))) 1 with
    | true =>
      have q := Nat.eq_of_beq_eq_true hb
      rw [Bool.not_true, cnF, cnT, lkw h (by omega)]
    | false => rw [Bool.not_false, cnT, cnF, orz]
theorem touch_eq {W : Nat → Int32} {a b c : Int32} (hw : WG W) (ht4 : T < 4) : ∀ (n : Nat) (s : Int32) (k : Nat), k + n = nv W (376 + 103 * T + 22) → l_touched W T a b c n s k = orL (gR W T a b c) n s k := by
  intro n
  induction n with
  | zero => intro s k _; rfl
  | succ n ih =>
    intro s k hk
    have h24 := (hw.2 T ht4).2.2.2.1.2.2
    have hK := ((hw.2 T ht4).2.2.2.2.2.2.2 k (by omega)).1.2.2
    rw [l_touched, orL, gR, gK, gK, gL, gL]
    simp only [ih _ _ (show k + 1 + n = nv W (376 + 103 * T + 22) by omega)]
    revert hK
    generalize nv W (376 + 103 * T + (55 + 2 * k)) = K
    generalize q_blockOf W (Int32.ofNat (nv W (376 + 103 * T + (55 + 2 * k + 1)))) = B
    generalize q_blockOf W (W (16 + nv W (376 + 103 * T + (55 + 2 * k + 1)))) = D
    generalize orL (gR W T a b c) n = F
    intro hK
    rw [zne_n b, zeq_n a, zeq_n c, zne_n a, zne_n c]
    have zz : ∀ K, K ≤ 7 → zc2 .ne (Int32.ofNat K) (Int32.ofNat 2) = !(Nat.beq K 2) ∧ zc2 .ne (Int32.ofNat K) (Int32.ofNat 3) = !(Nat.beq K 3) ∧ zc2 .gt (Int32.ofNat K) (Int32.ofNat 1) = !(Nat.ble K 1) := by decide +kernel
    obtain ⟨z1, z2, z3⟩ := zz K hK
    rw [z1, z2, z3]
    match K, hK with
    | 0, _ => cases zc1 .eq a <;> cases zc1 .eq b <;> cases zc1 .eq c <;> simp [Nat.beq, Nat.ble, orz, orz2] <;> rfl
    | 1, _ => cases zc1 .eq a <;> cases zc1 .eq b <;> cases zc1 .eq c <;> simp [Nat.beq, Nat.ble, orz, orz2] <;> rfl
    | 2, _ => cases zc1 .eq a <;> cases zc1 .eq b <;> cases zc1 .eq c <;> simp [Nat.beq, Nat.ble, orz, orz2] <;> rfl
    | 3, _ => cases zc1 .eq a <;> cases zc1 .eq b <;> cases zc1 .eq c <;> simp [Nat.beq, Nat.ble, orz, orz2] <;> rfl
    | 4, _ => cases zc1 .eq a <;> cases zc1 .eq b <;> cases zc1 .eq c <;> simp [Nat.beq, Nat.ble, orz, orz2] <;> rfl
    | 5, _ => cases zc1 .eq a <;> cases zc1 .eq b <;> cases zc1 .eq c <;> simp [Nat.beq, Nat.ble, orz, orz2] <;> rfl
    | 6, _ => cases zc1 .eq a <;> cases zc1 .eq b <;> cases zc1 .eq c <;> simp [Nat.beq, Nat.ble, orz, orz2] <;> rfl
    | 7, _ => cases zc1 .eq a <;> cases zc1 .eq b <;> cases zc1 .eq c <;> simp [Nat.beq, Nat.ble, orz, orz2] <;> rfl
/-- the class's four, and what the reference makes of them -/
noncomputable def oK (W : Nat → Int32) (T J : Nat) : Int32 := orL (gK W T J) (nv W (376 + 103 * T + 22)) (Int32.ofNat 0) 0
noncomputable def oL (W : Nat → Int32) (T J : Nat) : Int32 := orL (gL W T J) (nv W (376 + 103 * T + 22)) (Int32.ofNat 0) 0
theorem blk_all (h : LR m) (ht : T < nv (m 138) 9) (ht4 : T < 4) : x_blocksOf0 m 1 T = oL (m 138) T 0 ∧ x_blocksOf1 m 1 T = oL (m 138) T 1 ∧ x_blocksOf2 m 1 T = oK (m 138) T 2 ∧ x_blocksOf3 m 1 T = oK (m 138) T 3 := by
  have e22 : m (1 + 10 + 7 * T) 2 = m 138 (376 + 103 * T + 22) := h.c ht ht4 (by omega) rfl
  have n22 : mv m (1 + 10 + 7 * T) 2 = nv (m 138) (376 + 103 * T + 22) := by unfold mv nv; rw [e22]
  unfold x_blocksOf0 x_blocksOf1 x_blocksOf2 x_blocksOf3
  rw [n22]
  exact ⟨blk0_eq h ht ht4 _ _ _ (by omega), blk1_eq h ht ht4 _ _ _ (by omega), blk2_eq h ht ht4 _ _ _ (by omega), blk3_eq h ht ht4 _ _ _ (by omega)⟩
theorem touched_all {W : Nat → Int32} (hw : WG W) (ht4 : T < 4) : q_touched W T (Int32.ofNat 0) (Int32.ofNat 1) (Int32.ofNat 1) = (oK W T 2 ||| oL W T 0) ||| oL W T 1 ∧ q_touched W T (Int32.ofNat 1) (Int32.ofNat 0) (Int32.ofNat 1) = (oK W T 3 ||| oL W T 0) ||| oL W T 1 ∧ q_touched W T (Int32.ofNat 1) (Int32.ofNat 0) (Int32.ofNat 0) = oK W T 3 ∧ q_touched W T (Int32.ofNat 1) (Int32.ofNat 1) (Int32.ofNat 0) = oK W T 2 ||| oK W T 3 := by
  have q : ∀ a b c, q_touched W T a b c = orL (gR W T a b c) (nv W (376 + 103 * T + 22)) (Int32.ofNat 0) 0 := fun a b c => touch_eq hw ht4 _ _ _ (by omega)
  rw [q, q, q, q]
  unfold oK oL
  rw [orL_or, orL_or, orL_or, orL_or, orL_or]
  refine ⟨orL_e _ _ _ (fun j _ _ => ?_), orL_e _ _ _ (fun j _ _ => ?_), orL_e _ _ _ (fun j _ _ => ?_), orL_e _ _ _ (fun j _ _ => ?_)⟩
  · rw [gR, zn1, zne0, cnT, cnF, orz, cnT, Int32.or_assoc]
  · rw [gR, zn1, zne0, cnF, cnT, orz2, cnT, Int32.or_assoc]
  · rw [gR, zn1, zne0, cnF, cnT, orz2, cnF, orz]
  · rw [gR, zn1, zne0, cnT, cnT, cnF, orz]
theorem an_touches (h : LR m) (M : Nat → Nat → Int32) : AN [0, 1] (e_touches m t x) ((q_touches M (m 138) t x).2 137 0) (q_touches M (m 138) t x).1 := by
  unfold e_touches q_touches
  rw [noT h M t, in01]
  cases hs : sOK m t with
  | false => simp only [cnF, zn1, cnT]; exact AN.x 0 rfl rfl
  | true =>
    obtain ⟨-, ht, ht4⟩ := sOK_n h hs
    simp only [cnT, zne0, cnF]
    obtain ⟨b0, b1, b2, b3⟩ := blk_all h ht ht4
    obtain ⟨t1, t2, -, -⟩ := touched_all h.1.2.W ht4
    cases hx : tOK x with
    | false => simp only [cnF]; exact AN.x 1 rfl rfl
    | true =>
      rw [b0, b1, b2, b3, t1, t2]
      simp only [cnT]
      rcases t01 hx with e | e
      · subst e
        rw [show zc1 .ne (Int32.ofNat (Int32.ofNat 0).toNatClampNeg) = false from by decide, show zc2 .ne (Int32.ofNat 0) (Int32.ofNat 1) = true from by decide, zne0, cnF, cnT, cnF]
        exact AN.v rfl rfl
      · subst e
        rw [show zc1 .ne (Int32.ofNat (Int32.ofNat 1).toNatClampNeg) = true from by decide, show zc2 .ne (Int32.ofNat 1) (Int32.ofNat 1) = false from by decide, zn1, cnT, cnF, cnT]
        exact AN.v rfl rfl
theorem riv_eq (A B C D : Int32) : (A &&& (B ||| C)) ||| (B &&& D) = (A &&& (C ||| B)) ||| (B &&& (D ||| A)) := by
  apply Int32.toBitVec_inj.mp
  simp only [Int32.toBitVec_or, Int32.toBitVec_and]
  apply BitVec.eq_of_getLsbD_eq
  intro i hi
  simp only [BitVec.getLsbD_or, BitVec.getLsbD_and]
  cases A.toBitVec.getLsbD i <;> cases B.toBitVec.getLsbD i <;> cases C.toBitVec.getLsbD i <;> cases D.toBitVec.getLsbD i <;> rfl
theorem an_rivals (h : LR m) (M : Nat → Nat → Int32) : AN [0, 2] (e_rivals m t u) ((q_rivals M (m 138) t u).2 137 0) (q_rivals M (m 138) t u).1 := by
  have h4 := h.1.2.W.N4
  have q9 : q_threads (m 138) = Int32.ofNat (nv (m 138) 9) := h.1.2.W.N
  have X : ∀ v, zc1 .ne (q_in v (Int32.ofNat 0) (q_threads (m 138) - Int32.ofNat 1)) = sOK m v := fun v => by
    rw [q9, in_rg, zoN (by omega), sub1 (by omega), sOK_rg, h.n]
    rfl
  unfold e_rivals q_rivals
  rw [zeq_n, X, X]
  cases hs : sOK m t with
  | false => simp only [cnF, Bool.not_false, cnT]; exact AN.x 0 rfl rfl
  | true =>
    obtain ⟨et, ht, ht4⟩ := sOK_n h hs
    simp only [cnT, Bool.not_true, cnF]
    cases hu : sOK m u with
    | false => simp only [cnF]; exact AN.x 0 rfl rfl
    | true =>
      obtain ⟨eu, gu, gu4⟩ := sOK_n h hu
      simp only [cnT]
      obtain ⟨-, -, b2, b3⟩ := blk_all h ht ht4
      obtain ⟨-, -, c2, c3⟩ := blk_all h gu gu4
      obtain ⟨-, -, t1, t2⟩ := touched_all h.1.2.W ht4
      obtain ⟨-, -, u1, u2⟩ := touched_all h.1.2.W gu4
      rw [b2, b3, c2, c3, t1, t2, u1, u2, ← et, ← eu]
      cases zc2 .ne t u with
      | true =>
        rw [cnT, cnT]
        exact AN.v rfl (riv_eq _ _ _ _)
      | false =>
        rw [cnF, cnF]
        exact AN.x 1 rfl rfl
theorem held_eq (h : LR m) (ht : T < nv (m 138) 9) (ht4 : T < 4) {k : Nat} (hk : k < nv (m 138) (376 + 103 * T + 22)) (s : Int32) : x_heldBehind m 1 T k s = q_heldBehind (m 138) T k s := by
  have h24 := (h.1.2.W.2 T ht4).2.2.2.1.2.2
  obtain ⟨d1, d2, d3, -⟩ := dk h ht ht4 hk
  obtain ⟨-, f2⟩ := h.1.1.deed ht4 ht hk (by omega)
  obtain ⟨D1, -, -, -⟩ := (h.1.2.W.2 T ht4).2.2.2.2.2.2.2 k (by omega)
  have q0 : q_deedOf (m 138) T k 0 = Int32.ofNat (nv (m 138) (376 + 103 * T + (55 + 2 * k))) := D1.1
  have q1 : q_deedOf (m 138) T k 1 = m 138 (376 + 103 * T + (55 + 2 * k + 1)) := rfl
  unfold x_heldBehind q_heldBehind x_numberAt
  rw [d1, f2, q0, q1]
  have zz : ∀ K, K ≤ 7 → zc1 .ne (Int32.ofNat K) = !(Nat.beq K 0) ∧ zc2 .ne (Int32.ofNat K) (Int32.ofNat 1) = !(Nat.beq K 1) := by decide +kernel
  obtain ⟨z1, z2⟩ := zz _ d3
  rw [z1, z2]
  cases Nat.beq (nv (m 138) (376 + 103 * T + (55 + 2 * k))) 0 with
  | true => rw [Bool.not_true, cnF, cnT]
  | false =>
    rw [Bool.not_false, cnT, cnF]
    cases Nat.beq (nv (m 138) (376 + 103 * T + (55 + 2 * k))) 1 <;> rfl
theorem nest_eq (h : LR m) (ht : T < nv (m 138) 9) (ht4 : T < 4) : ∀ (n : Nat) (a s : Int32) (k : Nat), k + n = nv (m 138) (376 + 103 * T + 22) → xl_mostHeld m 1 T n a s k = l_nest (m 138) T n s a k := by
  intro n
  induction n with
  | zero => intro a s k _; rfl
  | succ n ih =>
    intro a s k hk
    rw [xl_mostHeld, l_nest, held_eq h ht ht4 (by omega), bitCount_eq, ih _ _ _ (by omega)]
theorem n22 (h : LR m) (ht : T < nv (m 138) 9) (ht4 : T < 4) : mv m (1 + 10 + 7 * T) 2 = nv (m 138) (376 + 103 * T + 22) := by
  have e22 : m (1 + 10 + 7 * T) 2 = m 138 (376 + 103 * T + 22) := h.c ht ht4 (by omega) rfl
  unfold mv nv
  rw [e22]
theorem an_nest (h : LR m) (M : Nat → Nat → Int32) : AN [0] (e_nest m t) ((q_nest M (m 138) t).2 137 0) (q_nest M (m 138) t).1 := by
  unfold e_nest q_nest
  rw [noT h M t]
  cases hs : sOK m t with
  | false => simp only [cnF, zeq1']; exact AN.x 0 rfl rfl
  | true =>
    obtain ⟨-, ht, ht4⟩ := sOK_n h hs
    simp only [cnT, zeq0]
    refine AN.v rfl ?_
    unfold x_mostHeld
    rw [n22 h ht ht4]
    exact nest_eq h ht ht4 _ _ _ _ (by omega)
theorem pendL (h : LR m) (ht : T < nv (m 138) 9) (ht4 : T < 4) {p : Nat} : ∀ (n : Nat) (s : Int32) (k : Nat), k + n + 1 = nv (m 138) (376 + 103 * T + 22) → xl_partEnd m 1 T p (n + 1) s k = l_behindPart (m 138) T n s k := by
  intro n
  induction n with
  | zero =>
    intro s k hk
    rw [xl_partEnd, xl_partEnd, l_behindPart, n22 h ht ht4, show nv (m 138) (376 + 103 * T + 22) = k + 1 by omega]
    cases zc1 .ne (x_heldBehind m 1 T k s) <;> rfl
  | succ n ih =>
    intro s k hk
    rw [xl_partEnd, l_behindPart, held_eq h ht ht4 (by omega), ih _ _ (by omega)]
theorem pend_eq (h : LR m) (ht : T < nv (m 138) 9) (ht4 : T < 4) {p : Nat} (hp : p < nv (m 138) (376 + 103 * T + 22)) : x_partEnd m 1 T p = q_behindPart (m 138) T p := by
  have h24 := (h.1.2.W.2 T ht4).2.2.2.1.2.2
  obtain ⟨D1, -, -, -⟩ := (h.1.2.W.2 T ht4).2.2.2.2.2.2.2 p (by omega)
  obtain ⟨d1, -⟩ := h.1.1.deed ht4 ht hp (by omega)
  unfold x_partEnd q_behindPart x_kindAt
  rw [d1, D1.1, n22 h ht ht4, show nv (m 138) (376 + 103 * T + 22) - p = (nv (m 138) (376 + 103 * T + 22) - 1 - p) + 1 by omega, pendL h ht ht4 _ _ _ (by omega)]
  have d3 := D1.2.2
  have zz : ∀ K, K ≤ 7 → zc1 .eq (Int32.ofNat K) = Nat.beq K 0 ∧ zc1 .ne (Int32.ofNat K) = !(Nat.beq K 0) ∧ zc2 .ne (Int32.ofNat K) (Int32.ofNat 1) = !(Nat.beq K 1) := by decide +kernel
  obtain ⟨z0, z1, z2⟩ := zz _ d3
  rw [z0]
  cases hb : Nat.beq (nv (m 138) (376 + 103 * T + (55 + 2 * p))) 0 with
  | true => rw [cnT]
  | false =>
    rw [cnF]
    have q0 : q_deedOf (m 138) T p 0 = Int32.ofNat (nv (m 138) (376 + 103 * T + (55 + 2 * p))) := D1.1
    have e : q_heldBehind (m 138) T p (Int32.ofNat 0) = Int32.ofNat 0 := by
      unfold q_heldBehind
      rw [q0, z1, z2, hb, Bool.not_false, cnT]
      exact cndi (fun q : Int32 => q = Int32.ofNat 0) rfl Int32.zero_and
    cases hn : nv (m 138) (376 + 103 * T + 22) - 1 - p with
    | zero => rfl
    | succ n => rw [l_behindPart, e, zne0, cnF]
theorem count_eq (h : LR m) (ht : T < nv (m 138) 9) (ht4 : T < 4) : ∀ (q n c p : Nat), nv (m 138) (376 + 103 * T + 22) ≤ p + q → nv (m 138) (376 + 103 * T + 22) ≤ p + n → p ≤ 24 → xl_partCount m 1 T n c p = l_partsOf (m 138) T q c p := by
  have h24 := (h.1.2.W.2 T ht4).2.2.2.1.2.2
  intro q
  induction q with
  | zero =>
    intro n c p h1 h2 hp
    cases n with
    | zero => rfl
    | succ n => rw [xl_partCount, l_partsOf, n22 h ht ht4, zcge (by omega) (by omega) (by omega), cnT]
  | succ q ih =>
    intro n c p h1 h2 hp
    cases n with
    | zero => rw [xl_partCount, l_partsOf, zcge (by omega) (by omega) (by omega), cnT]
    | succ n =>
      rw [xl_partCount, l_partsOf, n22 h ht ht4]
      by_cases hl : nv (m 138) (376 + 103 * T + 22) ≤ p
      · rw [zcge (by omega) (by omega) hl, cnT, cnT]
      · rw [zcge_f (by omega) (by omega) (by omega), cnF, cnF]
        obtain ⟨b1, b2, b3⟩ := bp_n h.1.2.W ht4 (show p < nv (m 138) (376 + 103 * T + 22) by omega)
        have e : pen m 1 T p = bpn (m 138) T p := by
          unfold pen bpn
          rw [pend_eq h ht ht4 (by omega)]
        rw [e]
        exact ih _ _ _ (by omega) (by omega) (by omega)
theorem pcount (h : LR m) (ht : T < nv (m 138) 9) (ht4 : T < 4) : x_partCount m 1 T = q_partsOf (m 138) T := by
  have h24 := (h.1.2.W.2 T ht4).2.2.2.1.2.2
  exact count_eq h ht ht4 _ _ _ _ (by omega) (by omega) (by omega)
theorem an_parts (h : LR m) (M : Nat → Nat → Int32) : AN [0] (e_parts m t) ((q_parts M (m 138) t).2 137 0) (q_parts M (m 138) t).1 := by
  unfold e_parts q_parts
  rw [noT h M t]
  cases hs : sOK m t with
  | false => simp only [cnF, zeq1']; exact AN.x 0 rfl rfl
  | true =>
    obtain ⟨-, ht, ht4⟩ := sOK_n h hs
    simp only [cnT, zeq0]
    exact AN.v rfl (pcount h ht ht4)
end ZAJ
