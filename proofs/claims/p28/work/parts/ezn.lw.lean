/-! orders: programs on both sides, any world that a machine is alike to -/
def LW (m : Nat → Nat → Int32) (W : Nat → Int32) : Prop := (RC m 1 W ∧ WZ W) ∧ True
section ZLW
variable {m : Nat → Nat → Int32} {W : Nat → Int32} {T : Nat}
theorem LW.far {m' : Nat → Nat → Int32} (h : LW m W) (e : ∀ i l, 1 ≤ i → i < 43 → m' i l = m i l) : LW m' W := ⟨⟨h.1.1.far (fun i l h1 h2 => e i l h1 (by omega)), h.1.2⟩, trivial⟩
theorem LW.c (h : LW m W) {T c o s : Nat} (ht : T < nv W 9) (ht4 : T < 4) (hc : c < 11 ∨ (15 ≤ c ∧ c ≤ 17) ∨ c = 21 ∨ c = 22) (hm : cmT T c = (o + 7 * T, s)) : m (1 + o + 7 * T) s = W (376 + 103 * T + c) := h.1.1.cellS ht4 (by omega) (cnd0 ht hc) hm
theorem dk_w (h : LW m W) (ht : T < nv W 9) (ht4 : T < 4) {k : Nat} (hk : k < nv W (376 + 103 * T + 22)) : mv m (1 + 11 + 7 * T) k = nv W (376 + 103 * T + (55 + 2 * k)) ∧ mv m (1 + 12 + 7 * T) k = nv W (376 + 103 * T + (55 + 2 * k + 1)) ∧ nv W (376 + 103 * T + (55 + 2 * k)) ≤ 7 ∧ (nv W (376 + 103 * T + (55 + 2 * k)) ≤ 1 → nv W (376 + 103 * T + (55 + 2 * k + 1)) ≤ 3) := by
  have h24 := (h.1.2.W.2 T ht4).2.2.2.1.2.2
  obtain ⟨d1, d2⟩ := h.1.1.deed ht4 ht hk (by omega)
  obtain ⟨D1, D2, D3, -⟩ := (h.1.2.W.2 T ht4).2.2.2.2.2.2.2 k (by omega)
  refine ⟨?_, ?_, D1.2.2, D3⟩
  · unfold mv nv; rw [d1]
  · unfold mv nv; rw [d2]
theorem held_eq_w (h : LW m W) (ht : T < nv W 9) (ht4 : T < 4) {k : Nat} (hk : k < nv W (376 + 103 * T + 22)) (s : Int32) : x_heldBehind m 1 T k s = q_heldBehind W T k s := by
  have h24 := (h.1.2.W.2 T ht4).2.2.2.1.2.2
  obtain ⟨d1, d2, d3, -⟩ := dk_w h ht ht4 hk
  obtain ⟨-, f2⟩ := h.1.1.deed ht4 ht hk (by omega)
  obtain ⟨D1, -, -, -⟩ := (h.1.2.W.2 T ht4).2.2.2.2.2.2.2 k (by omega)
  have q0 : q_deedOf W T k 0 = Int32.ofNat (nv W (376 + 103 * T + (55 + 2 * k))) := D1.1
  have q1 : q_deedOf W T k 1 = W (376 + 103 * T + (55 + 2 * k + 1)) := rfl
  unfold x_heldBehind q_heldBehind x_numberAt
  rw [d1, f2, q0, q1]
  have zz : ∀ K, K ≤ 7 → zc1 .ne (Int32.ofNat K) = !(Nat.beq K 0) ∧ zc2 .ne (Int32.ofNat K) (Int32.ofNat 1) = !(Nat.beq K 1) := by decide +kernel
  obtain ⟨z1, z2⟩ := zz _ d3
  rw [z1, z2]
  cases Nat.beq (nv W (376 + 103 * T + (55 + 2 * k))) 0 with
  | true => rw [Bool.not_true, cnF, cnT]
  | false =>
    rw [Bool.not_false, cnT, cnF]
    cases Nat.beq (nv W (376 + 103 * T + (55 + 2 * k))) 1 <;> rfl
theorem n22_w (h : LW m W) (ht : T < nv W 9) (ht4 : T < 4) : mv m (1 + 10 + 7 * T) 2 = nv W (376 + 103 * T + 22) := by
  have e22 : m (1 + 10 + 7 * T) 2 = W (376 + 103 * T + 22) := h.c ht ht4 (by omega) rfl
  unfold mv nv
  rw [e22]
theorem pendL_w (h : LW m W) (ht : T < nv W 9) (ht4 : T < 4) {p : Nat} : ∀ (n : Nat) (s : Int32) (k : Nat), k + n + 1 = nv W (376 + 103 * T + 22) → xl_partEnd m 1 T p (n + 1) s k = l_behindPart W T n s k := by
  intro n
  induction n with
  | zero =>
    intro s k hk
    rw [xl_partEnd, xl_partEnd, l_behindPart, n22_w h ht ht4, show nv W (376 + 103 * T + 22) = k + 1 by omega]
    cases zc1 .ne (x_heldBehind m 1 T k s) <;> rfl
  | succ n ih =>
    intro s k hk
    rw [xl_partEnd, l_behindPart, held_eq_w h ht ht4 (by omega), ih _ _ (by omega)]
theorem pend_eq_w (h : LW m W) (ht : T < nv W 9) (ht4 : T < 4) {p : Nat} (hp : p < nv W (376 + 103 * T + 22)) : x_partEnd m 1 T p = q_behindPart W T p := by
  have h24 := (h.1.2.W.2 T ht4).2.2.2.1.2.2
  obtain ⟨D1, -, -, -⟩ := (h.1.2.W.2 T ht4).2.2.2.2.2.2.2 p (by omega)
  obtain ⟨d1, -⟩ := h.1.1.deed ht4 ht hp (by omega)
  unfold x_partEnd q_behindPart x_kindAt
  rw [d1, D1.1, n22_w h ht ht4, show nv W (376 + 103 * T + 22) - p = (nv W (376 + 103 * T + 22) - 1 - p) + 1 by omega, pendL_w h ht ht4 _ _ _ (by omega)]
  have d3 := D1.2.2
  have zz : ∀ K, K ≤ 7 → zc1 .eq (Int32.ofNat K) = Nat.beq K 0 ∧ zc1 .ne (Int32.ofNat K) = !(Nat.beq K 0) ∧ zc2 .ne (Int32.ofNat K) (Int32.ofNat 1) = !(Nat.beq K 1) := by decide +kernel
  obtain ⟨z0, z1, z2⟩ := zz _ d3
  rw [z0]
  cases hb : Nat.beq (nv W (376 + 103 * T + (55 + 2 * p))) 0 with
  | true => rw [cnT]
  | false =>
    rw [cnF]
    have q0 : q_deedOf W T p 0 = Int32.ofNat (nv W (376 + 103 * T + (55 + 2 * p))) := D1.1
    have e : q_heldBehind W T p (Int32.ofNat 0) = Int32.ofNat 0 := by
      unfold q_heldBehind
      rw [q0, z1, z2, hb, Bool.not_false, cnT]
      exact cndi (fun q : Int32 => q = Int32.ofNat 0) rfl Int32.zero_and
    cases hn : nv W (376 + 103 * T + 22) - 1 - p with
    | zero => rfl
    | succ n => rw [l_behindPart, e, zne0, cnF]
theorem count_eq_w (h : LW m W) (ht : T < nv W 9) (ht4 : T < 4) : ∀ (q n c p : Nat), nv W (376 + 103 * T + 22) ≤ p + q → nv W (376 + 103 * T + 22) ≤ p + n → p ≤ 24 → xl_partCount m 1 T n c p = l_partsOf W T q c p := by
  have h24 := (h.1.2.W.2 T ht4).2.2.2.1.2.2
  intro q
  induction q with
  | zero =>
    intro n c p h1 h2 hp
    cases n with
    | zero => rfl
    | succ n => rw [xl_partCount, l_partsOf, n22_w h ht ht4, zcge (by omega) (by omega) (by omega), cnT]
  | succ q ih =>
    intro n c p h1 h2 hp
    cases n with
    | zero => rw [xl_partCount, l_partsOf, zcge (by omega) (by omega) (by omega), cnT]
    | succ n =>
      rw [xl_partCount, l_partsOf, n22_w h ht ht4]
      by_cases hl : nv W (376 + 103 * T + 22) ≤ p
      · rw [zcge (by omega) (by omega) hl, cnT, cnT]
      · rw [zcge_f (by omega) (by omega) (by omega), cnF, cnF]
        obtain ⟨b1, b2, b3⟩ := bp_n h.1.2.W ht4 (show p < nv W (376 + 103 * T + 22) by omega)
        have e : pen m 1 T p = bpn W T p := by
          unfold pen bpn
          rw [pend_eq_w h ht ht4 (by omega)]
        rw [e]
        exact ih _ _ _ (by omega) (by omega) (by omega)
theorem pcount_w (h : LW m W) (ht : T < nv W 9) (ht4 : T < 4) : x_partCount m 1 T = q_partsOf W T := by
  have h24 := (h.1.2.W.2 T ht4).2.2.2.1.2.2
  exact count_eq_w h ht ht4 _ _ _ _ (by omega) (by omega) (by omega)
end ZLW
