/-! takes alike -/
theorem cm_20 {l : Nat} (hl : l < 4) : cm (20 + l) = (5 + l, 1) := lt4 (P := fun l => cm (20 + l) = (5 + l, 1)) rfl rfl rfl rfl hl
theorem cm_16 {l : Nat} (hl : l < 4) : cm (16 + l) = (5 + l, 0) := lt4 (P := fun l => cm (16 + l) = (5 + l, 0)) rfl rfl rfl rfl hl
theorem cm_24 {l : Nat} (hl : l < 4) : cm (24 + l) = (5 + l, 2) := lt4 (P := fun l => cm (24 + l) = (5 + l, 2)) rfl rfl rfl rfl hl
theorem cm_28 {l : Nat} (hl : l < 4) : cm (28 + l) = (5 + l, 3) := lt4 (P := fun l => cm (28 + l) = (5 + l, 3)) rfl rfl rfl rfl hl
theorem RC.lkR {m : Nat → Nat → Int32} {b : Nat} {W : Nat → Int32} {l k s : Nat} (h : RC m b W) (hk : k < 136) (h15 : k ≠ 15) (hm : cm k = (5 + l, s)) : m (b + 5 + l) s = W k := by
  have q := h.globR hk h15 hm
  rw [← Nat.add_assoc] at q
  exact q
theorem RC.lkS {m : Nat → Nat → Int32} {b : Nat} {W : Nat → Int32} {l k s : Nat} {x : Int32} (h : RC m b W) (hC : WC W) (hk : k < 136) (h9 : k ≠ 9) (h15 : k ≠ 15) (hm : cm k = (5 + l, s)) : RC (zm2 m (b + 5 + l) s x) b (upd W k x) := by
  have q := h.globS (x := x) hC hk h9 h15 hm
  rw [← Nat.add_assoc] at q
  exact q
theorem RC.lw {m : Nat → Nat → Int32} {b : Nat} {W : Nat → Int32} {l : Nat} (h : RC m b W) (hl : l < 4) : mv m (b + 5 + l) 0 = nv W (16 + l) := by
  unfold mv nv
  rw [h.lkR (k := 16 + l) (by omega) (by omega) (cm_16 hl)]
theorem seen_eq {m : Nat → Nat → Int32} {b : Nat} {W : Nat → Int32} {t w : Nat} (h : RC m b W) (hx : WX W) (ht : t < nv W 9) (hw : w < 32) : x_seenBy m b t w = q_seen W t w := by
  have h4 := hx.W.N4
  have ht4 : t < 4 := by omega
  have g0 := h.gs ht4 ht
  have g1 : m (b + 1) w = W (32 + w) := h.globR (by omega) (by omega) (cm_w hw)
  have g9 : m (b + 14 + 7 * t) 9 = W (376 + 103 * t + 17) := h.cellS ht4 (by omega) (cnd0 ht (by omega)) rfl
  have q17 : q_of W t 17 = W (376 + 103 * t + 17) := rfl
  unfold x_seenBy q_seen x_hasValue
  rw [g0, g1, g9, bit_eq, q17]
  rcases hx.W.g01 ht4 with e | e
  · obtain ⟨-, -, z⟩ := hx.G t ht4 e
    have zz : zc1 .eq (q_holds (Int32.ofNat 0) w) = true := by
      rw [rb_k hw, rb_zero w hw]
      rfl
    rw [e, zeq0, cond_true, z, zz, cond_true]
  · rw [e, zeq1', cond_false]
    cases hb : zc1 .eq (q_holds (W (376 + 103 * t + 17)) w) with
    | true =>
      rw [cond_true, zeq0, cond_true, cond_true]
    | false =>
      rw [cond_false, zeq1', cond_false, cond_false]
      rw [rb_k hw] at hb
      have hh : hbit (W (376 + 103 * t + 17)) w := (hbit_rb hw).mpr (by
        cases hr : rbt (W (376 + 103 * t + 17)) w with
        | true => rfl
        | false => rw [hr] at hb; exact absurd hb (by decide))
      exact h.cellS (c := 23 + w) ht4 (by omega) ⟨ht, fun q => by omega, fun q => by omega, fun _ => by rw [show 23 + w - 23 = w by omega]; exact hh, fun q => by omega⟩ (cmT_v hw)
theorem cmT_l {t k : Nat} (hk : k < 4) : cmT t (11 + k) = (15 + 7 * t, k) := lt4 (P := fun k => cmT t (11 + k) = (15 + 7 * t, k)) rfl rfl rfl rfl hk
theorem RC.lo {m : Nat → Nat → Int32} {b : Nat} {W : Nat → Int32} {t k : Nat} (h : RC m b W) (ht4 : t < 4) (ht : t < nv W 9) (hk4 : k < 4) (hk : k < nv W (376 + 103 * t + 10)) : m (b + 15 + 7 * t) k = W (376 + 103 * t + (11 + k)) :=
  h.cellS (c := 11 + k) ht4 (by omega) ⟨ht, fun _ => by omega, fun q => by omega, fun q => by omega, fun q => by omega⟩ (cmT_l hk4)
theorem RC.left {m : Nat → Nat → Int32} {b : Nat} {W : Nat → Int32} {t : Nat} (h : RC m b W) (ht4 : t < 4) (ht : t < nv W 9) : m (b + 14 + 7 * t) 5 = W (376 + 103 * t + 10) := h.cellS ht4 (by omega) (cnd0 ht (by omega)) rfl
/-- where a lock is left out: first and last -/
noncomputable def yl (f : Nat → Bool) : Nat → Nat → Int32
  | 0, _ => Int32.ofNat 0
  | n + 1, k => bif f k then yl f n (k + 1) else Int32.ofNat 1
noncomputable def yp (f : Nat → Bool) : Nat → Int32 → Nat → Int32
  | 0, p, _ => p
  | n + 1, p, k => bif f k then yp f n p (k + 1) else yp f n (Int32.ofNat k) (k + 1)
theorem yy_4 (f : Nat → Bool) {q : Nat} (hq : q ≤ 4) : zc1 .eq (yl f q 0) = zc2 .eq (yp f q (-1) 0) (-1) ∧ (1 ≤ q → zc2 .eq (yp f q (-1) 0) (Int32.ofNat q - Int32.ofNat 1) = !(f (q - 1))) ∧ (q = 1 → zc2 .eq (yp f q (-1) 0) (-1) = false → yp f q (-1) 0 = Int32.ofNat 0) := by
  match q, hq with
  | 0, _ => exact ⟨by simp only [yl, yp]; decide, fun h => absurd h (by omega), fun h => absurd h (by omega)⟩
  | 1, _ =>
    simp only [yl, yp]
    show _ ∧ (_ → _ = !(f 0)) ∧ _
    generalize f 0 = a
    revert a
    decide +kernel
  | 2, _ =>
    simp only [yl, yp]
    show _ ∧ (_ → _ = !(f (0 + 1))) ∧ _
    generalize f 0 = a; generalize f (0 + 1) = c
    revert a c
    decide +kernel
  | 3, _ =>
    simp only [yl, yp]
    show _ ∧ (_ → _ = !(f (0 + 1 + 1))) ∧ _
    generalize f 0 = a; generalize f (0 + 1) = c; generalize f (0 + 1 + 1) = d
    revert a c d
    decide +kernel
  | 4, _ =>
    simp only [yl, yp]
    show _ ∧ (_ → _ = !(f (0 + 1 + 1 + 1))) ∧ _
    generalize f 0 = a; generalize f (0 + 1) = c; generalize f (0 + 1 + 1) = d; generalize f (0 + 1 + 1 + 1) = e
    revert a c d e
    decide +kernel
theorem yl_eq {m : Nat → Nat → Int32} {b : Nat} {W : Nat → Int32} {t : Nat} {l : Int32} (h : RC m b W) (ht4 : t < 4) (ht : t < nv W 9) (hq : nv W (376 + 103 * t + 10) ≤ 4) : ∀ (n k : Nat), k + n = nv W (376 + 103 * t + 10) → xl_leavesOut m b t l n k = yl (fun k => zc2 .ne (W (376 + 103 * t + (11 + k))) l) n k := by
  intro n
  induction n with
  | zero => intro k _; rfl
  | succ n ih =>
    intro k hk
    rw [xl_leavesOut, yl, ih _ (by omega), h.lo ht4 ht (by omega) (by omega)]
theorem yp_eq {W : Nat → Int32} {t : Nat} {l : Int32} : ∀ (n : Nat) (p : Int32) (k : Nat), l_placeLeft W t l n p k = yp (fun k => zc2 .ne (W (376 + 103 * t + (11 + k))) l) n p k := by
  intro n
  induction n with
  | zero => intro p k; rfl
  | succ n ih =>
    intro p k
    rw [l_placeLeft, yp, ih, ih]
    rfl
/-- left out at all; left out last; left out alone -/
theorem place_rx {m : Nat → Nat → Int32} {b : Nat} {W : Nat → Int32} {t : Nat} {l : Int32} (h : RC m b W) (hx : WX W) (ht : t < nv W 9) : zc1 .eq (x_leavesOut m b t l) = zc2 .eq (q_placeLeft W t l) (-1) ∧ (1 ≤ nv W (376 + 103 * t + 10) → zc2 .eq (q_placeLeft W t l) (q_of W t 10 - Int32.ofNat 1) = zc2 .eq (x_latest m b t) l) ∧ (nv W (376 + 103 * t + 10) = 1 → zc2 .eq (q_placeLeft W t l) (-1) = false → q_placeLeft W t l = Int32.ofNat 0) := by
  have h4 := hx.W.N4
  have ht4 : t < 4 := by omega
  obtain ⟨q1, q2, q3⟩ := (hx.W.2 t ht4).2.1
  have el := h.left ht4 ht
  have em : mv m (b + 14 + 7 * t) 5 = nv W (376 + 103 * t + 10) := by unfold mv nv; rw [el]
  obtain ⟨y1, y2, y3⟩ := yy_4 (fun k => zc2 .ne (W (376 + 103 * t + (11 + k))) l) q3
  have e10 : q_of W t 10 = Int32.ofNat (nv W (376 + 103 * t + 10)) := q1
  unfold x_leavesOut q_placeLeft
  rw [em, yl_eq h ht4 ht q3 _ _ (by omega), yp_eq, e10]
  refine ⟨y1, fun hn => ?_, y3⟩
  rw [y2 hn]
  unfold x_latest
  have z1 : zc1 .le (Int32.ofNat (mv m (b + 14 + 7 * t) 5)) = false := by
    apply decide_eq_false
    rw [em, Int32.le_iff_toInt_le, zoN (by omega), Int32.toInt_zero]
    omega
  have z2 : zc2 .gt (Int32.ofNat (mv m (b + 14 + 7 * t) 5)) (Int32.ofNat 4) = false := by
    rw [em]
    exact zcgt_f (by omega) (by omega) q3
  rw [z1, cond_false, z2, cond_false, em, h.lo ht4 ht (by omega) (by omega)]
  unfold zc2
  dsimp only
  rw [← decide_not, decide_eq_decide]
  exact Classical.not_not
/-! what is taken -/
noncomputable def x_takenB (m2 : Nat → Nat → Int32) (b t l : Nat) : Int32 × (Nat → Nat → Int32) :=
  let m3 := zm2 m2 (b + 10 + 7 * t) 5 (Int32.ofNat 0)
  let m4 := zm2 m3 (b + 5 + l) 2 (m3 (b + 5 + l) 2 + Int32.ofNat 1)
  bif zc1 .ne (m4 (b + 5 + l) 2 - m4 (b + 5 + l) 2 / (if Int32.ofNat 1 < m4 (b + 3) 7 then m4 (b + 3) 7 else Int32.ofNat 1) * (if Int32.ofNat 1 < m4 (b + 3) 7 then m4 (b + 3) 7 else Int32.ofNat 1)) then (Int32.ofNat 1, x_logAdd m4 b (m4 b 7) (Int32.ofNat t) (Int32.ofNat 3) (Int32.ofNat l)) else (Int32.ofNat 1, x_logAdd (x_gain m4 b l (Int32.ofNat 1)) b (x_gain m4 b l (Int32.ofNat 1) b 7) (Int32.ofNat t) (Int32.ofNat 3) (Int32.ofNat l))
noncomputable def x_begunB (m : Nat → Nat → Int32) (b t l : Nat) : Nat → Nat → Int32 :=
  let m1 := x_leaveOut (x_begin m b t (m (b + 10 + 7 * t) 3) (m (b + 10 + 7 * t) 4) (m b 7)) b t (Int32.ofNat l)
  let m2 := zm2 m1 (b + 14 + 7 * t) 6 (x_blockBit m1 b (m1 (b + 5 + l) 0))
  x_logAdd m2 b (m2 b 7) (Int32.ofNat t) (Int32.ofNat 0) (Int32.ofNat l)
theorem takePB_eq (m : Nat → Nat → Int32) (b t l : Nat) : x_takePB m b t l = bif zc1 .eq (m (b + 1) (mv m (b + 5 + l) 0)) then (bif zc2 .ge (m (b + 10 + 7 * t) 5) (m (b + 3) 1) then x_takenB (x_reach m b t (mv m (b + 5 + l) 0) (Int32.ofNat 1)).2 b t l else (bif zc2 .lt (m (b + 5 + l) 1) (m (b + 3) 4) then x_takenB (x_reach m b t (mv m (b + 5 + l) 0) (Int32.ofNat 1)).2 b t l else (Int32.ofNat 1, x_begunB m b t l))) else (Int32.ofNat 0, m) := rfl
theorem gain_eq (a : Int32) : (bif zc2 .ge a (Int32.ofNat 15) then Int32.ofNat 15 else a) = if a < Int32.ofNat 15 then a else Int32.ofNat 15 := by
  by_cases h : a < Int32.ofNat 15
  · rw [if_pos h]
    have : zc2 .ge a (Int32.ofNat 15) = false := by
      apply decide_eq_false
      rw [Int32.le_iff_toInt_le]
      rw [Int32.lt_iff_toInt_lt] at h
      omega
    rw [this, cond_false]
  · rw [if_neg h]
    have : zc2 .ge a (Int32.ofNat 15) = true := by
      apply decide_eq_true
      rw [Int32.le_iff_toInt_le]
      rw [Int32.lt_iff_toInt_lt] at h
      omega
    rw [this, cond_true]
theorem xgain_eq (m : Nat → Nat → Int32) (b l : Nat) (x : Int32) : x_gain m b l x = zm2 m (b + 5 + l) 1 (if m (b + 5 + l) 1 + x < Int32.ofNat 15 then m (b + 5 + l) 1 + x else Int32.ofNat 15) := by
  rw [← gain_eq]
  unfold x_gain
  cases zc2 .ge (m (b + 5 + l) 1 + x) (Int32.ofNat 15) <;> rfl
theorem gain_b {a d : Nat} (ha : a ≤ 15) (hd : d ≤ 9) : ∃ n, n ≤ 15 ∧ (if Int32.ofNat a + Int32.ofNat d < Int32.ofNat 15 then Int32.ofNat a + Int32.ofNat d else Int32.ofNat 15) = Int32.ofNat n := by
  have h : ∀ a, a < 16 → ∀ d, d < 10 → (if Int32.ofNat a + Int32.ofNat d < Int32.ofNat 15 then Int32.ofNat a + Int32.ofNat d else Int32.ofNat 15) = Int32.ofNat (min 15 (a + d)) := by decide +kernel
  exact ⟨min 15 (a + d), by omega, h a (by omega) d (by omega)⟩
theorem WX.trust {W : Nat → Int32} (h : WX W) {l d : Nat} {x : Int32} (hl : l < 4) (hd : d ≤ 9) (e : x = if W (20 + l) + Int32.ofNat d < Int32.ofNat 15 then W (20 + l) + Int32.ofNat d else Int32.ofNat 15) : WX (upd W (20 + l) x) := by
  obtain ⟨n, n1, n2⟩ := gain_b (h.1.2.2.2.2 l hl).2.2 hd
  rw [← (h.1.2.2.2.2 l hl).1, ← e] at n2
  refine WX.mk (h.W.put _ (fre_lo (by omega) (by omega))) ⟨h.1.2.2.2.1.of (upd_ne _ _ (by omega)), fun k hk => ?_⟩ (h.2.1.of (upd_ne _ _ (by omega))) (h.2.2.1.of (upd_ne _ _ (by omega))) (fun t ht => (h.T ht).of h.W ht (fun c hc _ => upd_ne _ _ (by omega)))
  by_cases q : k = l
  · rw [q]
    exact ok.is ((upd_at _ _ _).trans n2) (by omega) n1 (by omega)
  · exact (h.1.2.2.2.2 k hk).of (upd_ne _ _ (by omega))
theorem heal_eq {n : Nat} (h1 : 1 ≤ n) (h2 : n ≤ 9) : (if Int32.ofNat 1 < Int32.ofNat n then Int32.ofNat n else Int32.ofNat 1) = Int32.ofNat n := by
  have key : ∀ n, n < 10 → 1 ≤ n → (if Int32.ofNat 1 < Int32.ofNat n then Int32.ofNat n else Int32.ofNat 1) = Int32.ofNat n := by decide +kernel
  exact key n (by omega) h1
theorem taken_rx {m : Nat → Nat → Int32} {b : Nat} {V : Nat → Int32} {t l : Nat} (h : RC m b V) (hx : WX V) (hc : CG m b) (ht : t < nv V 9) (hl : l < 4) : (x_takenB m b t l).1 = Int32.ofNat 1 ∧ RC (x_takenB m b t l).2 b (q_isTaken V t l) ∧ WX (q_isTaken V t l) ∧ CG (x_takenB m b t l).2 b := by
  have h4 := hx.W.N4
  have ht4 : t < 4 := by omega
  have r1 := h.thS (c := 3) (o := 10) (s := 5) (x := Int32.ofNat 0) hx.W.C ht4 (by omega) (by omega) rfl
  have x1 : WX (upd V (376 + 103 * t + 3) (Int32.ofNat 0)) := hx.th ht4 (by omega) (by unfold cT; omega)
  have c1 : CG (zm2 m (b + 10 + 7 * t) 5 (Int32.ofNat 0)) b := hc.put _ (ncS ht4)
  unfold x_takenB q_isTaken
  dsimp only
  generalize upd V (376 + 103 * t + 3) (Int32.ofNat 0) = V1 at r1 x1 ⊢
  generalize zm2 m (b + 10 + 7 * t) 5 (Int32.ofNat 0) = m1 at r1 c1 ⊢
  rw [r1.lkR (k := 24 + l) (by omega) (by omega) (cm_24 hl)]
  have r2 := r1.lkS (k := 24 + l) (x := V1 (24 + l) + Int32.ofNat 1) x1.W.C (by omega) (by omega) (by omega) (cm_24 hl)
  have x2 : WX (upd V1 (24 + l) (V1 (24 + l) + Int32.ofNat 1)) := x1.glob (by omega) (by omega) (by omega)
  have c2 : CG (zm2 m1 (b + 5 + l) 2 (V1 (24 + l) + Int32.ofNat 1)) b := c1.put _ (ncL hl (by omega))
  generalize upd V1 (24 + l) (V1 (24 + l) + Int32.ofNat 1) = V2 at r2 x2 ⊢
  generalize zm2 m1 (b + 5 + l) 2 (V1 (24 + l) + Int32.ofNat 1) = m2 at r2 c2 ⊢
  have g7 : m2 (b + 3) 7 = V2 7 := r2.glob (k := 7) (by omega) (by omega)
  have g11 : m2 b 7 = V2 11 := r2.glob (k := 11) (by omega) (by omega)
  have o7 := x2.W.1.2.2.1
  have e7 : (if Int32.ofNat 1 < V2 7 then V2 7 else Int32.ofNat 1) = V2 7 := by
    rw [o7.1]
    exact heal_eq o7.2.1 o7.2.2
  rw [r2.lkR (k := 24 + l) (by omega) (by omega) (cm_24 hl), g7, e7, g11]
  cases zc1 .ne (V2 (24 + l) - V2 (24 + l) / V2 7 * V2 7) with
  | true =>
    simp only [cond_true]
    exact ⟨trivial, r2.log x2.W.C c2.n60, x2.logs _ _ _, c2.logAdd _ _ _ _⟩
  | false =>
    simp only [cond_false]
    have eg := xgain_eq m2 b l (Int32.ofNat 1)
    rw [r2.lkR (k := 20 + l) (by omega) (by omega) (cm_20 hl)] at eg
    rw [eg]
    have r3 := r2.lkS (k := 20 + l) (x := if V2 (20 + l) + Int32.ofNat 1 < Int32.ofNat 15 then V2 (20 + l) + Int32.ofNat 1 else Int32.ofNat 15) x2.W.C (by omega) (by omega) (by omega) (cm_20 hl)
    have x3 := x2.trust (l := l) (d := 1) hl (by omega) rfl
    have c3 := c2.put (a := b + 5 + l) (k := 1) (if V2 (20 + l) + Int32.ofNat 1 < Int32.ofNat 15 then V2 (20 + l) + Int32.ofNat 1 else Int32.ofNat 15) (ncL hl (by omega))
    have g11' : zm2 m2 (b + 5 + l) 1 (if V2 (20 + l) + Int32.ofNat 1 < Int32.ofNat 15 then V2 (20 + l) + Int32.ofNat 1 else Int32.ofNat 15) b 7 = upd V2 (20 + l) (if V2 (20 + l) + Int32.ofNat 1 < Int32.ofNat 15 then V2 (20 + l) + Int32.ofNat 1 else Int32.ofNat 15) 11 := r3.glob (k := 11) (by omega) (by omega)
    rw [g11']
    exact ⟨trivial, r3.log x3.W.C c3.n60, x3.logs _ _ _, c3.logAdd _ _ _ _⟩
