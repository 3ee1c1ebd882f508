/-! what is asked, alike: one cell or a sum of them -/
theorem rg_f {v : Int32} {n k : Nat} (h : rg v 0 (n : Int) = false) (hk : k < n) (hn : n < 100000) : decide (v = Int32.ofNat k) = false := by
  refine decide_eq_false (fun e => ?_)
  have a := of_decide_eq_false h
  rw [e, zoN (by omega)] at a
  omega
theorem dkn {n k : Nat} (hn : n < 100000) (hk : k < 100000) : decide (Int32.ofNat n = Int32.ofNat k) = Nat.beq n k := by
  have e := zceq_n (a := n) (b := k) (by omega) (by omega)
  have e2 : zc2 .eq (Int32.ofNat n) (Int32.ofNat k) = decide (Int32.ofNat n = Int32.ofNat k) := rfl
  rw [← e2, e]
  by_cases q : n = k
  · rw [decide_eq_true q]; exact (Nat.beq_eq ▸ q : Nat.beq n k = true).symm
  · rw [decide_eq_false q]
    cases hb : Nat.beq n k with
    | false => rfl
    | true => exact absurd (Nat.eq_of_beq_eq_true hb) q
theorem rg_T {v x : Int32} (h : rg v 0 x.toInt = true) : zc1 .lt v = false ∧ zc2 .lt v x = true ∧ zc2 .ge v x = false := by
  rw [← lt_rg, Bool.and_eq_true, Bool.not_eq_true'] at h
  refine ⟨h.1, h.2, ?_⟩
  rw [zge_n, h.2]
  rfl
theorem rg_F {v x : Int32} (h : rg v 0 x.toInt = false) : zc1 .lt v = true ∨ (zc1 .lt v = false ∧ zc2 .lt v x = false ∧ zc2 .ge v x = true) := by
  rw [← lt_rg] at h
  cases h1 : zc1 .lt v with
  | true => exact Or.inl rfl
  | false =>
    rw [h1] at h
    have h2 : zc2 .lt v x = false := by simpa using h
    refine Or.inr ⟨rfl, h2, ?_⟩
    rw [zge_n, h2]
    rfl
section ZAK
variable {m : Nat → Nat → Int32} {t x k l w : Int32}
theorem LR.c (h : LR m) {T c o s : Nat} (ht : T < nv (m 138) 9) (ht4 : T < 4) (hc : c < 11 ∨ (15 ≤ c ∧ c ≤ 17) ∨ c = 21 ∨ c = 22) (hm : cmT T c = (o + 7 * T, s)) : m (1 + o + 7 * T) s = m 138 (376 + 103 * T + c) := h.1.1.cellS ht4 (by omega) (cnd0 ht hc) hm
theorem fells_eq (h : LR m) {T : Nat} (ht : T < nv (m 138) 9) (ht4 : T < 4) : ∀ (n : Nat) (s : Int32) (k : Nat), k + n = 5 → xl_allFalls m 1 T n s k = l_fellOf (m 138) T n s k := by
  intro n
  induction n with
  | zero => intro s k _; rfl
  | succ n ih =>
    intro s k hk
    have e : m (1 + 13 + 7 * T) k = q_of (m 138) T (5 + k) := h.c ht ht4 (by omega) (cmT_5 (by omega))
    rw [xl_allFalls, l_fellOf, e, ih _ _ (by omega)]
theorem an_thread (h : LR m) (M : Nat → Nat → Int32) : AN [0, 1] (e_thread m t x) ((q_thread M (m 138) t x).2 137 0) (q_thread M (m 138) t x).1 := by
  unfold e_thread q_thread
  rw [noT h M t]
  cases hs : sOK m t with
  | false =>
    simp only [cnF, zn1, cnT]
    exact AN.x 0 rfl rfl
  | true =>
    obtain ⟨-, ht, ht4⟩ := sOK_n h hs
    simp only [cnT, zne0, cnF]
    rw [in_rg, zoN (by omega), zoN (by omega)]
    revert ht ht4
    generalize t.toNatClampNeg = T
    intro ht ht4
    cases hx : rg x ((0 : Nat) : Int) (((9 : Nat) : Int) + 1) with
    | false =>
      have z : ∀ k, k < 10 → decide (x = Int32.ofNat k) = false := fun k hk => rg_f (n := 10) hx hk (by omega)
      simp only [z 0 (by omega), z 1 (by omega), z 2 (by omega), z 3 (by omega), z 4 (by omega), z 5 (by omega), z 6 (by omega), z 7 (by omega), z 8 (by omega), z 9 (by omega), cnF]
      exact AN.x 1 rfl rfl
    | true =>
      obtain ⟨ex, hn⟩ := rg_n (n := 10) hx
      revert ex hn
      generalize x.toNatClampNeg = n
      intro ex hn
      subst ex
      have hn10 : n < 10 := by omega
      rw [cnT]
      simp only [dkn (show n < 100000 by omega) (show 0 < 100000 by omega), dkn (show n < 100000 by omega) (show 1 < 100000 by omega), dkn (show n < 100000 by omega) (show 2 < 100000 by omega), dkn (show n < 100000 by omega) (show 3 < 100000 by omega), dkn (show n < 100000 by omega) (show 4 < 100000 by omega), dkn (show n < 100000 by omega) (show 5 < 100000 by omega), dkn (show n < 100000 by omega) (show 6 < 100000 by omega), dkn (show n < 100000 by omega) (show 7 < 100000 by omega), dkn (show n < 100000 by omega) (show 8 < 100000 by omega), dkn (show n < 100000 by omega) (show 9 < 100000 by omega)]
      clear hx hn
      match n, hn10 with
      | 0, _ => exact AN.v rfl (h.c ht ht4 (by omega) rfl)
      | 1, _ => exact AN.v rfl (h.c ht ht4 (by omega) rfl)
      | 2, _ =>
        have e : m (1 + 14 + 7 * T) 0 = m 138 (376 + 103 * T + 2) := h.c ht ht4 (by omega) rfl
        show AN [0, 1] (bif zc1 .eq (m (1 + 14 + 7 * T) 0) then .inl (Int32.ofNat 0) else .inl (Int32.ofNat 1)) _ (m 138 (376 + 103 * T + 2))
        rw [e]
        rcases h.1.2.W.g01 ht4 with q | q
        · rw [q, zeq0, cnT]; exact AN.v rfl rfl
        · rw [q, zeq1', cnF]; exact AN.v rfl rfl
      | 3, _ =>
        show AN [0, 1] (bif zc1 .eq (x_sDone m 1 T) then .inl (Int32.ofNat 0) else .inl (Int32.ofNat 1)) ((bif zc1 .eq (q_isDone (m 138) T) then (Int32.ofNat 0, zm2 M 137 0 (Int32.ofNat 0)) else (Int32.ofNat 1, zm2 M 137 0 (Int32.ofNat 0))).2 137 0) (bif zc1 .eq (q_isDone (m 138) T) then (Int32.ofNat 0, zm2 M 137 0 (Int32.ofNat 0)) else (Int32.ofNat 1, zm2 M 137 0 (Int32.ofNat 0))).1
        rw [sdone_eq h.1.1 h.1.2.W ht]
        cases zc1 .eq (q_isDone (m 138) T) with
        | true => exact AN.v rfl rfl
        | false => exact AN.v rfl rfl
      | 4, _ => exact AN.v rfl (h.c ht ht4 (by omega) rfl)
      | 5, _ => exact AN.v rfl (h.c ht ht4 (by omega) rfl)
      | 6, _ => exact AN.v rfl (fells_eq h ht ht4 5 (Int32.ofNat 0) 0 rfl)
      | 7, _ => exact AN.v rfl (h.c ht ht4 (by omega) rfl)
      | 8, _ => exact AN.v rfl (h.c ht ht4 (by omega) rfl)
      | 9, _ => exact AN.v rfl (h.c ht ht4 (by omega) rfl)
theorem sub1 {n : Nat} (hn : n ≤ 1000) : (Int32.ofNat n - Int32.ofNat 1).toInt + 1 = (n : Int) := by
  rw [Int32.toInt_sub, zoN (by omega), zoN (by omega), Int.bmod_eq_of_le (by omega) (by omega)]
  omega
theorem an_leftOut (h : LR m) (M : Nat → Nat → Int32) : AN [0] (e_leftOut m t k) ((q_leftOut M (m 138) t k).2 137 0) (q_leftOut M (m 138) t k).1 := by
  unfold e_leftOut q_leftOut
  rw [noT h M t]
  cases hs : sOK m t with
  | false =>
    simp only [cnF, zeq1', cnT]
    exact AN.x 0 rfl rfl
  | true =>
    obtain ⟨-, ht, ht4⟩ := sOK_n h hs
    simp only [cnT, zeq0, cnF]
    revert ht ht4
    generalize t.toNatClampNeg = T
    intro ht ht4
    have hq := (h.1.2.W.2 T ht4).2.1
    have el : m (1 + 14 + 7 * T) 5 = Int32.ofNat (nv (m 138) (376 + 103 * T + 10)) := (h.1.1.left ht4 ht).trans hq.1
    have h4 := hq.2.2
    rw [zeq_n, in_rg, zoN (by omega), sub1 (by omega), el]
    have ez : (Int32.ofNat (nv (m 138) (376 + 103 * T + 10))).toInt = (nv (m 138) (376 + 103 * T + 10) : Int) := zoN (by omega)
    cases hr : rg k ((0 : Nat) : Int) (nv (m 138) (376 + 103 * T + 10) : Int) with
    | true =>
      obtain ⟨ek, hn⟩ := rg_n (n := (nv (m 138) (376 + 103 * T + 10) : Int)) hr
      obtain ⟨r1, r2, r3⟩ := rg_T (x := Int32.ofNat (nv (m 138) (376 + 103 * T + 10))) (by rw [ez]; exact hr)
      have r4 : zc2 .ge k (Int32.ofNat 4) = false := by
        rw [ek]
        exact zcge_f (by omega) (by omega) (by omega)
      rw [r1, cnF, r3, cnF, r4, cnF, Bool.not_true, cnF]
      exact AN.v rfl (h.1.1.lo ht4 ht (by omega) (by omega))
    | false =>
      rw [Bool.not_false, cnT]
      rcases rg_F (x := Int32.ofNat (nv (m 138) (376 + 103 * T + 10))) (by rw [ez]; exact hr) with r | ⟨r1, r2, r3⟩
      · rw [r, cnT]; exact AN.v rfl rfl
      · rw [r1, cnF, r3, cnT]; exact AN.v rfl rfl
theorem an_blocks (h : LR m) (M : Nat → Nat → Int32) : AN [0, 1] (e_blocks m t x) ((q_blocks M (m 138) t x).2 137 0) (q_blocks M (m 138) t x).1 := by
  unfold e_blocks q_blocks
  rw [noT h M t, in01]
  cases hs : sOK m t with
  | false =>
    simp only [cnF, zn1, cnT]
    exact AN.x 0 rfl rfl
  | true =>
    obtain ⟨-, ht, ht4⟩ := sOK_n h hs
    simp only [cnT, zne0, cnF]
    cases hx : tOK x with
    | false => simp only [cnF]; exact AN.x 1 rfl rfl
    | true =>
      rcases t01 hx with e | e
      · subst e
        simp only [cnT]
        rw [show zc1 .ne (Int32.ofNat (Int32.ofNat 0).toNatClampNeg) = false from by decide, zne0, cnF, cnF]
        exact AN.v rfl (h.c ht ht4 (by omega) rfl)
      · subst e
        simp only [cnT]
        rw [show zc1 .ne (Int32.ofNat (Int32.ofNat 1).toNatClampNeg) = true from by decide, zn1, cnT, cnT]
        exact AN.v rfl (h.c ht ht4 (by omega) rfl)
theorem fell_eq (h : LR m) {X : Nat} (hX : X < 5) : ∀ (n : Nat) (a : Int32) (k : Nat), k + n = nv (m 138) 9 → xl_fellL m t X n a k = l_fell (m 138) t X n a k := by
  have h4 := h.1.2.W.N4
  intro n
  induction n with
  | zero => intro a k _; rfl
  | succ n ih =>
    intro a k hk
    have e : m (1 + 13 + 7 * k) X = q_of (m 138) k (5 + X) := h.c (by omega) (by omega) (by omega) (cmT_5 hX)
    rw [xl_fellL, l_fell, e, ih _ _ (by omega), ih _ _ (by omega), show a + Int32.ofNat 0 = a from Int32.add_zero a]
theorem an_fell (h : LR m) (M : Nat → Nat → Int32) : AN [0, 1] (e_fell m t x) ((q_fell M (m 138) t x).2 137 0) (q_fell M (m 138) t x).1 := by
  have h4 := h.1.2.W.N4
  have e9 : mv m 1 5 = nv (m 138) 9 := h.1.1.n9
  have q9 : q_threads (m 138) = Int32.ofNat (nv (m 138) 9) := h.1.2.W.N
  have T : zc1 .ne (q_in t (Int32.ofNat 0) (q_threads (m 138) - Int32.ofNat 1)) = sOK m t := by
    rw [q9, in_rg, zoN (by omega), sub1 (by omega), sOK_rg, h.n]
    rfl
  have X : zc1 .ne (q_in x (Int32.ofNat 0) (Int32.ofNat 4)) = rg x 0 5 := by
    rw [in_rg, zoN (by omega), zoN (by omega)]
    rfl
  have key : AN [0, 1] (bif zc1 .lt x then .inr 1 else (bif zc2 .lt x (Int32.ofNat 5) then .inl (xl_fellL m t x.toNatClampNeg (mv m 1 5) (Int32.ofNat 0) 0) else .inr 1)) ((bif rg x 0 5 then (l_fell (m 138) t x.toNatClampNeg (nv (m 138) 9) (Int32.ofNat 0) 0, zm2 M 137 0 (Int32.ofNat 0)) else (Int32.ofNat 0, (q_thr1 (zm2 M 137 0 (Int32.ofNat 0)) 2).2)).2 137 0) (bif rg x 0 5 then (l_fell (m 138) t x.toNatClampNeg (nv (m 138) 9) (Int32.ofNat 0) 0, zm2 M 137 0 (Int32.ofNat 0)) else (Int32.ofNat 0, (q_thr1 (zm2 M 137 0 (Int32.ofNat 0)) 2).2)).1 := by
    cases hx : rg x 0 5 with
    | true =>
      obtain ⟨-, hn⟩ := rg_n hx
      obtain ⟨r1, r2, -⟩ := rg_T (x := Int32.ofNat 5) (by rw [zoN (by omega)]; exact hx)
      rw [r1, cnF, r2, cnT, cnT, e9, fell_eq h (by omega) _ _ _ (by omega)]
      exact AN.v rfl rfl
    | false =>
      rw [cnF]
      rcases rg_F (x := Int32.ofNat 5) (by rw [zoN (by omega)]; exact hx) with r | ⟨r1, r2, -⟩
      · rw [r, cnT]; exact AN.x 1 rfl rfl
      · rw [r1, cnF, r2, cnF]; exact AN.x 1 rfl rfl
  unfold e_fell q_fell
  rw [T, X]
  cases zc2 .eq t (-1) with
  | true => simp only [cnT]; exact key
  | false =>
    cases sOK m t with
    | true => simp only [cnT, cnF]; exact key
    | false => simp only [cnF]; exact AN.x 0 rfl rfl
theorem an_word (h : LR m) (M : Nat → Nat → Int32) : AN [0] (e_word m w) ((q_word M (m 138) w).2 137 0) (q_word M (m 138) w).1 := by
  unfold e_word q_word
  rw [noW]
  cases hw : wOK w with
  | false => simp only [cnF, zeq1']; exact AN.x 0 rfl rfl
  | true =>
    rw [wOK_rg] at hw
    obtain ⟨-, hn⟩ := rg_n hw
    simp only [cnT, zeq0]
    exact AN.v rfl (h.1.1.globR (by omega) (by omega) (cm_w (by omega)))
theorem an_sees (h : LR m) (M : Nat → Nat → Int32) : AN [0] (e_sees m t w) ((q_sees M (m 138) t w).2 137 0) (q_sees M (m 138) t w).1 := by
  unfold e_sees q_sees
  rw [noT h M t, noW]
  cases hs : sOK m t with
  | false => simp only [cnF, zn1, cnT]; exact AN.x 0 rfl rfl
  | true =>
    obtain ⟨-, ht, ht4⟩ := sOK_n h hs
    simp only [cnT, zne0, cnF]
    cases hw : wOK w with
    | false => simp only [cnF, zeq1']; exact AN.x 0 rfl rfl
    | true =>
      rw [wOK_rg] at hw
      obtain ⟨-, hn⟩ := rg_n hw
      simp only [cnT, zeq0]
      exact AN.v rfl (seen_eq h.1.1 h.1.2.1.1 ht (by omega))
theorem leave_eq (h : LR m) : ∀ (n c k : Nat), k + n = nv (m 138) 9 → xl_leavingOut m 1 l n c k = l_leavers (m 138) l n (Int32.ofNat c) k := by
  intro n
  induction n with
  | zero => intro c k _; rfl
  | succ n ih =>
    intro c k hk
    have p := (place_rx (l := l) h.1.1 h.1.2.1.1 (t := k) (by omega)).1
    rw [xl_leavingOut, l_leavers, zne2_n, p, ih _ _ (by omega), ih _ _ (by omega), i_add, show Int32.ofNat c + Int32.ofNat 0 = Int32.ofNat c from Int32.add_zero _]
    cases zc2 .eq (q_placeLeft (m 138) k l) (-1) <;> rfl
theorem an_lock (h : LR m) (M : Nat → Nat → Int32) : AN [0, 1] (e_lock m l x) ((q_lock M (m 138) l x).2 137 0) (q_lock M (m 138) l x).1 := by
  have e9 : mv m 1 5 = nv (m 138) 9 := h.1.1.n9
  unfold e_lock q_lock
  rw [in_rg, in_rg, zoN (by omega), zoN (by omega), zoN (by omega)]
  cases hl : rg l ((0 : Nat) : Int) (((3 : Nat) : Int) + 1) with
  | false =>
    rw [cnF]
    rcases rg_F (x := Int32.ofNat 4) (by rw [zoN (by omega)]; exact hl) with r | ⟨r1, r2, -⟩
    · rw [r, cnT]; exact AN.x 0 rfl rfl
    · rw [r1, cnF, r2, cnF]; exact AN.x 0 rfl rfl
  | true =>
    obtain ⟨-, hn⟩ := rg_n (n := 4) hl
    obtain ⟨r1, r2, -⟩ := rg_T (x := Int32.ofNat 4) (by rw [zoN (by omega)]; exact hl)
    rw [r1, cnF, r2, cnT, cnT]
    have hL : l.toNatClampNeg < 4 := by omega
    clear hl hn r1 r2
    revert hL
    generalize l.toNatClampNeg = L
    intro hL
    cases hx : rg x ((0 : Nat) : Int) (((5 : Nat) : Int) + 1) with
    | false =>
      have z : ∀ k, k < 6 → decide (x = Int32.ofNat k) = false := fun k hk => rg_f (n := 6) hx hk (by omega)
      simp only [z 0 (by omega), z 1 (by omega), z 2 (by omega), z 3 (by omega), z 4 (by omega), z 5 (by omega), cnF]
      exact AN.x 1 rfl rfl
    | true =>
      obtain ⟨ex, hn⟩ := rg_n (n := 6) hx
      revert ex hn
      generalize x.toNatClampNeg = n
      intro ex hn
      subst ex
      have hn6 : n < 6 := by omega
      rw [cnT]
      simp only [dkn (show n < 100000 by omega) (show 0 < 100000 by omega), dkn (show n < 100000 by omega) (show 1 < 100000 by omega), dkn (show n < 100000 by omega) (show 2 < 100000 by omega), dkn (show n < 100000 by omega) (show 3 < 100000 by omega), dkn (show n < 100000 by omega) (show 4 < 100000 by omega), dkn (show n < 100000 by omega) (show 5 < 100000 by omega)]
      clear hx hn
      match n, hn6 with
      | 0, _ => exact AN.v rfl (h.1.1.lkR (by omega) (by omega) (lt4 (P := fun l => cm (16 + l) = (5 + l, 0)) rfl rfl rfl rfl hL))
      | 1, _ =>
        refine AN.v rfl ?_
        show m (1 + 1) (mv m (1 + 5 + L) 0) = m 138 (32 + nv (m 138) (16 + L))
        rw [h.1.1.lw hL]
        exact h.1.1.globR (by have := h.1.2.W.lk32 hL; omega) (by omega) (cm_w (h.1.2.W.lk32 hL))
      | 2, _ => exact AN.v rfl (h.1.1.lkR (by omega) (by omega) (lt4 (P := fun l => cm (20 + l) = (5 + l, 1)) rfl rfl rfl rfl hL))
      | 3, _ => exact AN.v rfl (h.1.1.lkR (by omega) (by omega) (lt4 (P := fun l => cm (24 + l) = (5 + l, 2)) rfl rfl rfl rfl hL))
      | 4, _ =>
        refine AN.v rfl ?_
        show x_leavingOut m 1 (Int32.ofNat L) = q_leavers (m 138) (Int32.ofNat L)
        unfold x_leavingOut q_leavers
        rw [e9]
        exact leave_eq h _ 0 0 (by omega)
      | 5, _ => exact AN.v rfl (h.1.1.lkR (by omega) (by omega) (lt4 (P := fun l => cm (28 + l) = (5 + l, 3)) rfl rfl rfl rfl hL))
theorem le_rg {v x : Int32} : (!zc1 .lt v && zc2 .le v x) = rg v 0 (x.toInt + 1) := by
  have e1 : zc1 .lt v = decide (v < 0) := rfl
  have e2 : zc2 .le v x = decide (v ≤ x) := rfl
  unfold rg
  rw [e1, e2, Bool.decide_and]
  congr 1
  · rw [← decide_not]
    refine decide_eq_decide.mpr ?_
    rw [Int32.lt_iff_toInt_lt, Int32.toInt_zero]
    omega
  · refine decide_eq_decide.mpr ?_
    rw [Int32.le_iff_toInt_le]
    omega
theorem an_term (h : LR m) (M : Nat → Nat → Int32) : AN [1] (e_term m x) ((q_term M (m 138) x).2 137 0) (q_term M (m 138) x).1 := by
  unfold e_term q_term
  rw [in_rg, zoN (by omega)]
  have q : (!zc1 .lt x && zc2 .le x (Int32.ofNat 8)) = rg x ((0 : Nat) : Int) ((Int32.ofNat 8).toInt + 1) := le_rg
  rw [← q]
  cases h1 : zc1 .lt x with
  | true => simp only [cnT, Bool.not_true, Bool.false_and, cnF]; exact AN.x 0 rfl rfl
  | false =>
    cases h2 : zc2 .le x (Int32.ofNat 8) with
    | false => simp only [cnF, Bool.not_false, Bool.true_and]; exact AN.x 0 rfl rfl
    | true =>
      have hn := (i7_of (by omega) h1 h2).2
      simp only [cnF, cnT, Bool.not_false, Bool.true_and]
      exact AN.v rfl (h.1.1.globR (by omega) (by omega) (cm_3 (by omega)))
theorem an_deed (h : LR m) (M : Nat → Nat → Int32) : AN [0, 1] (e_deed m t k x) ((q_deed M (m 138) t k x).2 137 0) (q_deed M (m 138) t k x).1 := by
  unfold e_deed q_deed
  rw [noT h M t, in01]
  cases hs : sOK m t with
  | false => simp only [cnF, zn1, cnT]; exact AN.x 0 rfl rfl
  | true =>
    obtain ⟨-, ht, ht4⟩ := sOK_n h hs
    simp only [cnT, zne0, cnF]
    revert ht ht4
    generalize t.toNatClampNeg = T
    intro ht ht4
    have e22 : m (1 + 10 + 7 * T) 2 = m 138 (376 + 103 * T + 22) := h.c ht ht4 (by omega) rfl
    have n22 : mv m (1 + 10 + 7 * T) 2 = nv (m 138) (376 + 103 * T + 22) := by unfold mv nv; rw [e22]
    have h24 := (h.1.2.W.2 T ht4).2.2.2.1.2.2
    rw [n22, zeq_n, in_rg, zoN (by omega), sub1 (by omega)]
    have ez : (Int32.ofNat (nv (m 138) (376 + 103 * T + 22))).toInt = (nv (m 138) (376 + 103 * T + 22) : Int) := zoN (by omega)
    cases hx : tOK x with
    | false => simp only [cnF]; exact AN.x 1 rfl rfl
    | true =>
      cases hr : rg k ((0 : Nat) : Int) (nv (m 138) (376 + 103 * T + 22) : Int) with
      | true =>
        obtain ⟨ek, hn⟩ := rg_n (n := (nv (m 138) (376 + 103 * T + 22) : Int)) hr
        obtain ⟨r1, r2, r3⟩ := rg_T (x := Int32.ofNat (nv (m 138) (376 + 103 * T + 22))) (by rw [ez]; exact hr)
        obtain ⟨d1, d2⟩ := h.1.1.deed ht4 ht (p := k.toNatClampNeg) (by omega) (by omega)
        rw [r1, r2]
        simp only [cnT, cnF, Bool.not_true]
        rcases t01 hx with e | e
        · subst e
          rw [show zc1 .ne (Int32.ofNat (Int32.ofNat 0).toNatClampNeg) = false from by decide, cnF]
          exact AN.v rfl d1
        · subst e
          rw [show zc1 .ne (Int32.ofNat (Int32.ofNat 1).toNatClampNeg) = true from by decide, cnT]
          exact AN.v rfl d2
      | false =>
        simp only [cnT, Bool.not_false]
        rcases rg_F (x := Int32.ofNat (nv (m 138) (376 + 103 * T + 22))) (by rw [ez]; exact hr) with r | ⟨r1, r2, r3⟩
        · rw [r]
          simp only [cnT]
          exact cndi (fun q => AN [0, 1] q _ _) (AN.v rfl rfl) (AN.v rfl rfl)
        · rw [r1, r2]
          simp only [cnF]
          exact cndi (fun q => AN [0, 1] q _ _) (AN.v rfl rfl) (AN.v rfl rfl)
theorem cm_out {j : Nat} (hj : j < 20) : cm (96 + 2 * j) = (38, j) ∧ cm (96 + 2 * j + 1) = (39, j) := by
  have a : ∀ j, j < 20 → cm (96 + 2 * j) = (38, j) ∧ cm (96 + 2 * j + 1) = (39, j) := by decide +kernel
  exact a j hj
theorem an_output (h : LR m) (M : Nat → Nat → Int32) : AN [1] (e_output m k x) ((q_output M (m 138) k x).2 137 0) (q_output M (m 138) k x).1 := by
  have e14 : m 1 12 = m 138 14 := h.1.1.globR (k := 14) (o := 0) (s := 12) (by omega) (by omega) rfl
  have o14 := h.1.2.W.1.2.2.2.2.1
  have h20 := o14.2.2
  unfold e_output q_output
  rw [in01, zeq_n, in_rg, zoN (by omega), sub1 (by omega), e14, o14.1]
  have ez : (Int32.ofNat (nv (m 138) 14)).toInt = (nv (m 138) 14 : Int) := zoN (by omega)
  cases hx : tOK x with
  | false => simp only [cnF]; exact AN.x 0 rfl rfl
  | true =>
    cases hr : rg k ((0 : Nat) : Int) (nv (m 138) 14 : Int) with
    | true =>
      obtain ⟨ek, hn⟩ := rg_n (n := (nv (m 138) 14 : Int)) hr
      obtain ⟨r1, r2, r3⟩ := rg_T (x := Int32.ofNat (nv (m 138) 14)) (by rw [ez]; exact hr)
      have r4 : zc2 .lt k (Int32.ofNat 20) = true := by
        rw [ek]
        exact zclt (by omega) (by omega) (by omega)
      obtain ⟨c1, c2⟩ := cm_out (j := k.toNatClampNeg) (by omega)
      rw [r1, r3, r4]
      simp only [cnT, cnF, Bool.not_true]
      rcases t01 hx with e | e
      · subst e
        rw [show zc1 .ne (Int32.ofNat (Int32.ofNat 0).toNatClampNeg) = false from by decide, cnF]
        exact AN.v rfl (h.1.1.globR (k := 96 + 2 * k.toNatClampNeg) (by omega) (by omega) c1)
      · subst e
        rw [show zc1 .ne (Int32.ofNat (Int32.ofNat 1).toNatClampNeg) = true from by decide, cnT]
        exact AN.v rfl (h.1.1.globR (k := 96 + 2 * k.toNatClampNeg + 1) (by omega) (by omega) c2)
    | false =>
      simp only [cnT, Bool.not_false]
      rcases rg_F (x := Int32.ofNat (nv (m 138) 14)) (by rw [ez]; exact hr) with r | ⟨r1, r2, r3⟩
      · rw [r]
        simp only [cnT]
        exact cndi (fun q => AN [1] q _ _) (AN.v rfl rfl) (AN.v rfl rfl)
      · rw [r1, r3]
        simp only [cnT, cnF]
        exact cndi (fun q => AN [1] q _ _) (AN.v rfl rfl) (AN.v rfl rfl)
theorem zfN_60 : ∀ n, n < 60 → ∀ a, a < 60 → zfN (Int32.ofNat n - Int32.ofNat 1 - Int32.ofNat a) = (n + 59 - a) % 60 := by decide +kernel
theorem an_log (h : LR m) (hc : CG m 1) (M : Nat → Nat → Int32) : AN [1] (e_log m k x) ((q_log M (m 138) k x).2 137 0) (q_log M (m 138) k x).1 := by
  have o15 := h.1.2.W.1.2.2.2.2.2.1
  have h60 := o15.2.2
  have e15 : m (1 + 40) 1 = Int32.ofNat (nv (m 138) 15) := h.1.1.1.1.trans o15.1
  unfold e_log q_log x_logCell
  rw [in_rg, zoN (by omega), zoN (by omega), zeq_n, in_rg, zoN (by omega), sub1 (by omega), e15]
  have ez : (Int32.ofNat (nv (m 138) 15)).toInt = (nv (m 138) 15 : Int) := zoN (by omega)
  cases hx : rg x ((0 : Nat) : Int) (((3 : Nat) : Int) + 1) with
  | false =>
    rw [cnF]
    rcases rg_F (x := Int32.ofNat 4) (by rw [zoN (by omega)]; exact hx) with r | ⟨r1, r2, -⟩
    · rw [r, cnT]; exact AN.x 0 rfl rfl
    · rw [r1, cnF, r2, cnF]; exact AN.x 0 rfl rfl
  | true =>
    obtain ⟨-, hX⟩ := rg_n (n := 4) hx
    obtain ⟨r1, r2, -⟩ := rg_T (x := Int32.ofNat 4) (by rw [zoN (by omega)]; exact hx)
    rw [r1, r2, cnF, cnT, cnT, cnF, cnT]
    cases hr : rg k ((0 : Nat) : Int) (nv (m 138) 15 : Int) with
    | true =>
      obtain ⟨ek, hn⟩ := rg_n (n := (nv (m 138) 15 : Int)) hr
      obtain ⟨s1, s2, s3⟩ := rg_T (x := Int32.ofNat (nv (m 138) 15)) (by rw [ez]; exact hr)
      have o2 := hc.1
      rw [s1, s3, cnF, cnF, Bool.not_true, cnF]
      refine AN.v rfl ?_
      show m (1 + 41) (zfN (m (1 + 40) 2 - Int32.ofNat 1 - k) * 4 + x.toNatClampNeg) = m 138 (136 + 4 * (nv (m 138) 15 - 1 - k.toNatClampNeg) + x.toNatClampNeg)
      have q := h.1.1.1.2 k.toNatClampNeg x.toNatClampNeg (by omega) (by omega)
      have e1 : zfN (m (1 + 40) 2 - Int32.ofNat 1 - k) = (mv m (1 + 40) 2 + 59 - k.toNatClampNeg) % 60 := by
        rw [o2.1, ek, nv_on (by omega)]
        exact zfN_60 _ (by have := o2.2; omega) _ (by omega)
      rw [e1, Nat.mul_comm]
      exact q
    | false =>
      rw [Bool.not_false, cnT]
      rcases rg_F (x := Int32.ofNat (nv (m 138) 15)) (by rw [ez]; exact hr) with r | ⟨s1, s2, s3⟩
      · rw [r, cnT]; exact AN.v rfl rfl
      · rw [s1, s3, cnF, cnT]; exact AN.v rfl rfl
theorem an_fault (h : LR m) {M : Nat → Nat → Int32} (hM : M 137 11 = m 137 11) : e_fault m = (q_fault M).1 := by
  unfold e_fault q_fault
  rw [zx_nk _ _ (by decide), hM]
  exact h.2.2.2.2.2.1
theorem gbits_eq (h : LR m) : ∀ (n : Nat) (s : Int32) (k : Nat), k + n = nv (m 138) 9 → xl_guessingBits m 1 n s k = l_guessing (m 138) n s k := by
  have h4 := h.1.2.W.N4
  intro n
  induction n with
  | zero => intro s k _; rfl
  | succ n ih =>
    intro s k hk
    have e := h.1.1.gs (t := k) (by omega) (by omega)
    rw [xl_guessingBits, l_guessing]
    unfold x_isGuessing
    rw [e, ih _ _ (by omega), ih _ _ (by omega)]
    have q2 : q_of (m 138) k 2 = m 138 (376 + 103 * k + 2) := rfl
    rw [q2]
    rcases h.1.2.W.g01 (t := k) (by omega) with q | q
    · rw [q, zeq0, cnT, zeq0, cnT]
      have z : ∀ k, k < 4 → Int32.ofNat 0 <<< (Int32.ofNat k &&& 31) = Int32.ofNat 0 := by decide +kernel
      rw [z k (by omega)]
    · rw [q, zeq1', cnF, zeq1', cnF]
theorem kept_eq (h : LR m) : ∀ (n : Nat) (s : Int32) (k : Nat), k + n = nv (m 138) 9 → xl_allKept m 1 n s k = l_keptAll (m 138) n s k := by
  have h4 := h.1.2.W.N4
  intro n
  induction n with
  | zero => intro s k _; rfl
  | succ n ih =>
    intro s k hk
    have e : m (1 + 10 + 7 * k) 6 = q_of (m 138) k 4 := h.c (by omega) (by omega) (by omega) rfl
    rw [xl_allKept, l_keptAll, e, ih _ _ (by omega)]
theorem lbits_eq (h : LR m) : ∀ (n : Nat) (s : Int32) (k : Nat), k + n = 4 → xl_lockBits m 1 n s k = l_heldLocks (m 138) n s k := by
  intro n
  induction n with
  | zero => intro s k _; rfl
  | succ n ih =>
    intro s k hk
    have hk4 : k < 4 := by omega
    have hw := h.1.2.W.lk32 hk4
    have e : m (1 + 1) (mv m (1 + 5 + k) 0) = m 138 (32 + nv (m 138) (16 + k)) := by
      rw [h.1.1.lw hk4]
      exact h.1.1.globR (by omega) (by omega) (cm_w hw)
    rw [xl_lockBits, l_heldLocks, e, ih _ _ (by omega), ih _ _ (by omega), zne_n]
    cases zc1 .eq (m 138 (32 + nv (m 138) (16 + k))) <;> rfl
theorem an_count (h : LR m) (M : Nat → Nat → Int32) : e_count m x = (q_count M (m 138) x).1 := by
  have e9 : mv m 1 5 = nv (m 138) 9 := h.1.1.n9
  have g : ∀ k s, k < 136 → k ≠ 15 → cm k = (0, s) → m 1 s = m 138 k := fun k s h1 h2 h3 => h.1.1.globR h1 h2 h3
  have e3 : x_doneBits m 1 = q_doneOnes (m 138) := done_eq h.1.1 h.1.2.W
  have e4 : x_guessingBits m 1 = q_guessing (m 138) := by
    unfold x_guessingBits q_guessing
    rw [e9]
    exact gbits_eq h _ _ _ (by omega)
  have e5 : x_allKept m 1 = q_keptAll (m 138) := by
    unfold x_allKept q_keptAll
    rw [e9]
    exact kept_eq h _ _ _ (by omega)
  have e6 : x_lockBits m 1 = q_heldLocks (m 138) := lbits_eq h _ _ _ rfl
  have e8 : m (1 + 40) 1 = m 138 15 := h.1.1.1.1
  have eT : m 1 5 = q_threads (m 138) := g 9 5 (by omega) (by omega) rfl
  unfold e_count q_count
  rw [eT, g 10 6 (by omega) (by omega) rfl, g 11 7 (by omega) (by omega) rfl, e3, e4, e5, e6, g 14 12 (by omega) (by omega) rfl, e8, g 12 8 (by omega) (by omega) rfl]
  cases decide (x = Int32.ofNat 0) with
  | true => rfl
  | false =>
    cases decide (x = Int32.ofNat 1) with
    | true => rfl
    | false =>
      cases decide (x = Int32.ofNat 2) with
      | true => rfl
      | false =>
        cases decide (x = Int32.ofNat 3) with
        | true => rfl
        | false =>
          cases decide (x = Int32.ofNat 4) with
          | true => rfl
          | false =>
            cases decide (x = Int32.ofNat 5) with
            | true => rfl
            | false =>
              cases decide (x = Int32.ofNat 6) with
              | true => rfl
              | false =>
                cases decide (x = Int32.ofNat 7) with
                | true => rfl
                | false =>
                  cases decide (x = Int32.ofNat 8) with
                  | true => rfl
                  | false => cases decide (x = Int32.ofNat 9) <;> rfl
end ZAK
