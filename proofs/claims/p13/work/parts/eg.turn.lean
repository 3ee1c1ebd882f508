/-! whose turn it is, draws, ticks: alike -/
theorem RC.lt {m : Nat → Nat → Int32} {b : Nat} {W : Nat → Int32} (h : RC m b W) : ltc m b = lt1 W := by
  have g : m b 8 = W 12 := h.glob (k := 12) (by omega) (by omega)
  unfold ltc lt1
  rw [g]
theorem nextL_eq {m : Nat → Nat → Int32} {b : Nat} {W : Nat → Int32} (h : RC m b W) (hw : WG W) : ∀ (n k : Nat), 1 ≤ k → k + n = nv W 9 + 1 → xl_nextByTurn m b n k = l_nextOne W n k := by
  intro n
  induction n with
  | zero => intro k _ _; rfl
  | succ n ih =>
    intro k h1 hk
    rw [xl_nextByTurn, l_nextOne, ih _ (by omega) (by omega), h.lt, h.n9, sdone_eq h hw (Nat.mod_lt _ (by omega))]
theorem next_eq {m : Nat → Nat → Int32} {b : Nat} {W : Nat → Int32} (h : RC m b W) (hw : WG W) : x_nextByTurn m b = q_nextOne W := by
  unfold x_nextByTurn q_nextOne
  rw [h.n9]
  exact nextL_eq h hw _ _ (by omega) (by omega)
theorem doneL_eq {m : Nat → Nat → Int32} {b : Nat} {W : Nat → Int32} (h : RC m b W) (hw : WG W) : ∀ (n : Nat) (s : Int32) (k : Nat), k + n = nv W 9 → xl_doneBits m b n s k = l_doneOnes W n s k := by
  intro n
  induction n with
  | zero => intro s k _; rfl
  | succ n ih =>
    intro s k hk
    rw [xl_doneBits, l_doneOnes, ih _ _ (by omega), ih _ _ (by omega), sdone_eq h hw (by omega)]
theorem done_eq {m : Nat → Nat → Int32} {b : Nat} {W : Nat → Int32} (h : RC m b W) (hw : WG W) : x_doneBits m b = q_doneOnes W := by
  unfold x_doneBits q_doneOnes
  rw [h.n9]
  exact doneL_eq h hw _ _ _ (by omega)
theorem ndc_0 (W : Nat → Int32) : ∀ n k, ndc W n k = 0 → ∀ u, k ≤ u → u < k + n → dn W u = true := by
  intro n
  induction n with
  | zero => intro k _ u h1 h2; omega
  | succ n ih =>
    intro k h u h1 h2
    rw [ndc] at h
    by_cases e : u = k
    · subst e
      cases hd : dn W u with
      | true => rfl
      | false =>
        rw [hd] at h
        simp at h
    · refine ih (k + 1) ?_ u (by omega) (by omega)
      cases hd : dn W k with
      | true => rw [hd] at h; simpa using h
      | false => rw [hd] at h; simp at h
theorem next_none {W : Nat → Int32} (hd : ∀ u, u < nv W 9 → dn W u = true) : ∀ (n k : Nat), 1 ≤ k → k + n = nv W 9 + 1 → l_nextOne W n k = -1 := by
  intro n
  induction n with
  | zero => intro k _ _; rfl
  | succ n ih =>
    intro k h1 hk
    rw [l_nextOne, isDone_dn, hd _ (Nat.mod_lt _ (by omega)), cond_true, zn1, cond_true]
    exact ih _ (by omega) (by omega)
/-- all are done: nobody's turn -/
theorem all_next {W : Nat → Int32} (h : WG W) (hL : LT W) : zc2 .eq (q_nextOne W) (-1) = zc1 .ne (q_areAllDone W) := by
  cases hc : zc1 .ne (q_areAllDone W) with
  | false =>
    obtain ⟨v, v1, _, v2⟩ := next_ok h hL hc
    have h4 := h.N4
    have z : ∀ v, v < 4 → zc2 .eq (Int32.ofNat v) (-1) = false := by decide +kernel
    rw [v2]
    exact z v (by omega)
  | true =>
    obtain ⟨-, a⟩ := done_fin h.N h.N4
    have hz : ndc W (nv W 9) 0 = 0 := by
      rw [a] at hc
      cases hb : Nat.beq (ndc W (nv W 9) 0) 0 with
      | true => exact Nat.eq_of_beq_eq_true hb
      | false => rw [hb] at hc; exact absurd hc (by decide)
    have e : q_nextOne W = -1 := by
      unfold q_nextOne
      exact next_none (fun u hu => ndc_0 W _ _ hz u (by omega) (by omega)) _ _ (by omega) (by omega)
    rw [e]
    decide
theorem next_nine {W : Nat → Int32} (h : WG W) (hL : LT W) (hc : zc1 .ne (q_areAllDone W) = false) : nxn W < nv W 9 ∧ AL W (nxn W) := by
  obtain ⟨v, v1, v3, v2⟩ := next_ok h hL hc
  have h4 := h.N4
  have e : nxn W = v := by
    unfold nxn
    rw [v2, nv_on (by omega)]
  rw [e]
  exact ⟨v1, v3⟩
theorem steps_LT {W : Nat → Int32} {mm : Nat → Nat → Int32} {t : Nat} (h : KG W t) (ht : t < 4) : LT (q_steps mm W t).2.1 := LT_of (steps_ok (m := mm) h ht).2 ht
theorem goT_rx {b n0 q : Nat} : ∀ (n k : Nat) (m : Nat → Nat → Int32) (W : Nat → Int32) (mm : Nat → Nat → Int32), RC m 1 W → WY W → CG m 1 → LT W → (xl_goTurnL n0 n k m).1 = (l_goesT q n k W mm).1 ∧ RC (xl_goTurnL n0 n k m).2 1 (l_goesT q n k W mm).2.1 ∧ WY (l_goesT q n k W mm).2.1 ∧ CG (xl_goTurnL n0 n k m).2 1 ∧ LT (l_goesT q n k W mm).2.1 := by
  intro n
  induction n with
  | zero => intro k m W mm h hy hc hL; exact ⟨rfl, h, hy, hc, hL⟩
  | succ n ih =>
    intro k m W mm h hy hc hL
    have g7 : m 1 7 = W 11 := h.glob (k := 11) (by omega) (by omega)
    have e : (x_nextByTurn m 1).toNatClampNeg = nxn W := by rw [next_eq h hy.1.W]; rfl
    rw [xl_goTurnL, l_goesT, g7, e, next_eq h hy.1.W, zne2_n, all_next hy.1.W hL]
    cases hc1 : zc1 .ne (q_areAllDone W) with
    | true =>
      cases zc2 .ge (W 11) (Int32.ofNat 99999) with
      | true => simp only [cnT, cnF, Bool.not_true]; exact ⟨trivial, h, hy, hc, hL⟩
      | false => simp only [cnT, cnF, Bool.not_true]; exact ⟨trivial, h, hy, hc, hL⟩
    | false =>
      cases zc2 .ge (W 11) (Int32.ofNat 99999) with
      | true => simp only [cnT, cnF]; exact ⟨trivial, h, hy, hc, hL⟩
      | false =>
        simp only [cnT, cnF, Bool.not_false]
        obtain ⟨v1, v2⟩ := next_nine hy.1.W hL hc1
        have h4 := hy.1.W.N4
        obtain ⟨-, s2, s3, s4⟩ := step_ry (mm := mm) h hy hc v1 v2
        exact ih _ _ _ _ s2 s3 s4 (steps_LT ⟨hy.1.W, v2⟩ (by omega))
theorem drawn_eq {m : Nat → Nat → Int32} {b n9 : Nat} {W : Nat → Int32} (h : RC m b W) (hw : WG W) : ∀ (n : Nat) (a : Int32) (k : Nat), k + n = nv W 9 → xl_nextByDraw m b n a k = l_drawnOne W n9 n a k := by
  intro n
  induction n with
  | zero => intro a k _; rfl
  | succ n ih =>
    intro a k hk
    rw [xl_nextByDraw, l_drawnOne, ih _ _ (by omega), ih _ _ (by omega), sdone_eq h hw (by omega), zne_n (q_isDone W k)]
    cases zc1 .eq (q_isDone W k) <;> rfl
/-- a draw, where someone is not done -/
theorem draw_rx {m : Nat → Nat → Int32} {b : Nat} {W : Nat → Int32} (h : RC m b W) (hy : WY W) (hc : CG m b) (hd : zc1 .ne (q_areAllDone W) = false) : (x_nextByDraw m b).1 = (q_drawnOne W).1 ∧ RC (x_nextByDraw m b).2 b (q_drawnOne W).2 ∧ WY (q_drawnOne W).2 ∧ CG (x_nextByDraw m b).2 b := by
  have g5 : m b 5 = q_threads W := h.glob (k := 9) (by omega) (by omega)
  have g9 : m b 9 = W 13 := h.glob (k := 13) (by omega) (by omega)
  have hb := draw_b hy.1.W.N hy.1.W.N4
  have h1 := left0 hy.1.W hd
  have hle := ndc_le W (nv W 9) 0
  have h4 := hy.1.W.N4
  have z : zc2 .ge (Int32.ofNat (ndc W (nv W 9) 0)) (Int32.ofNat 1) = true := zcge (by omega) (by omega) h1
  have r := h.globS (k := 13) (o := 0) (s := 9) (x := W 13 * Int32.ofNat 1103515245 + Int32.ofNat 12345) hy.1.W.C (by omega) (by omega) (by omega) rfl
  rw [Nat.add_zero] at r
  have x1 : WX (upd W 13 (W 13 * Int32.ofNat 1103515245 + Int32.ofNat 12345)) := hy.1.glob (by omega) (by omega) (by omega)
  have y1 : WY (upd W 13 (W 13 * Int32.ofNat 1103515245 + Int32.ofNat 12345)) := ⟨x1, hy.2.pg (by omega) (by omega)⟩
  have c1 : CG (zm2 m b 9 (W 13 * Int32.ofNat 1103515245 + Int32.ofNat 12345)) b := hc.put _ (ncM (by omega) (by omega))
  have n9 : nv (upd W 13 (W 13 * Int32.ofNat 1103515245 + Int32.ofNat 12345)) 9 = nv W 9 := nv_of (upd_ne _ _ (by omega))
  unfold x_nextByDraw q_drawnOne x_draw q_drawOf
  rw [g5, bitCount_eq, done_eq h hy.1.W, hb, z, g9]
  simp only [cnT]
  rw [zx_at, upd_at]
  refine ⟨?_, r, y1, c1⟩
  rw [r.n9, n9]
  exact drawn_eq r x1.W _ _ _ (by omega)
theorem drawn_nine {W : Nat → Int32} (h : WG W) (hc : zc1 .ne (q_areAllDone W) = false) : dxn W < nv (q_drawnOne W).2 9 ∧ AL (q_drawnOne W).2 (dxn W) := by
  obtain ⟨v, v1, v3, v2⟩ := drawn_ok h hc
  have h4 := h.N4
  have e : dxn W = v := by
    unfold dxn
    rw [v2, nv_on (by omega)]
  have e2 : (q_drawnOne W).2 = upd W 13 (W 13 * Int32.ofNat 1103515245 + Int32.ofNat 12345) := rfl
  have e9 : nv (q_drawnOne W).2 9 = nv W 9 := by
    rw [e2]
    exact nv_of (upd_ne _ _ (by omega))
  rw [e, e9]
  exact ⟨v1, v3⟩
theorem all_ndc {W : Nat → Int32} (h : WG W) (hc : zc1 .ne (q_areAllDone W) = true) : ndc W (nv W 9) 0 = 0 := by
  obtain ⟨-, a⟩ := done_fin h.N h.N4
  rw [a] at hc
  cases hb : Nat.beq (ndc W (nv W 9) 0) 0 with
  | true => exact Nat.eq_of_beq_eq_true hb
  | false => rw [hb] at hc; exact absurd hc (by decide)
theorem draw_none {m : Nat → Nat → Int32} {b : Nat} {W : Nat → Int32} (h : RC m b W) (hw : WG W) (hd : zc1 .ne (q_areAllDone W) = true) : x_nextByDraw m b = (-1, m) := by
  have g5 : m b 5 = q_threads W := h.glob (k := 9) (by omega) (by omega)
  have hb := draw_b hw.N hw.N4
  have z : zc2 .ge (Int32.ofNat 0) (Int32.ofNat 1) = false := by decide
  unfold x_nextByDraw
  rw [g5, bitCount_eq, done_eq h hw, hb, all_ndc hw hd, z, cond_false]
theorem goD_rx {n0 q : Nat} : ∀ (n k : Nat) (m : Nat → Nat → Int32) (W : Nat → Int32) (mm : Nat → Nat → Int32), RC m 1 W → WY W → CG m 1 → LT W → (xl_goDrawL n0 n k m).1 = (l_goesD q n k W mm).1 ∧ RC (xl_goDrawL n0 n k m).2 1 (l_goesD q n k W mm).2.1 ∧ WY (l_goesD q n k W mm).2.1 ∧ CG (xl_goDrawL n0 n k m).2 1 ∧ LT (l_goesD q n k W mm).2.1 := by
  intro n
  induction n with
  | zero => intro k m W mm h hy hc hL; exact ⟨rfl, h, hy, hc, hL⟩
  | succ n ih =>
    intro k m W mm h hy hc hL
    have g7 : m 1 7 = W 11 := h.glob (k := 11) (by omega) (by omega)
    rw [xl_goDrawL, l_goesD, g7]
    cases hc1 : zc1 .ne (q_areAllDone W) with
    | true =>
      rw [draw_none h hy.1.W hc1]
      dsimp only
      rw [show zc2 .ne (-1 : Int32) (-1) = false from by decide]
      cases zc2 .ge (W 11) (Int32.ofNat 99999) with
      | true => simp only [cnT]; exact ⟨trivial, h, hy, hc, hL⟩
      | false => simp only [cnT, cnF]; exact ⟨trivial, h, hy, hc, hL⟩
    | false =>
      cases zc2 .ge (W 11) (Int32.ofNat 99999) with
      | true => simp only [cnT, cnF]; exact ⟨trivial, h, hy, hc, hL⟩
      | false =>
        simp only [cnF]
        obtain ⟨d1, d2, d3, d4⟩ := draw_rx h hy hc hc1
        obtain ⟨v1, v2⟩ := drawn_nine hy.1.W hc1
        have h4 := d3.1.W.N4
        have hv : (q_drawnOne W).1 = Int32.ofNat (dxn W) := (drawn_n hy.1.W hc1).1
        have ne : zc2 .ne (x_nextByDraw m 1).1 (-1) = true := by
          have z : ∀ v, v < 4 → zc2 .ne (Int32.ofNat v) (-1) = true := by decide +kernel
          rw [d1, hv]
          exact z _ (by omega)
        have e : (x_nextByDraw m 1).1.toNatClampNeg = dxn W := by rw [d1]; rfl
        rw [ne, cond_true, e]
        obtain ⟨-, s2, s3, s4⟩ := step_ry (mm := mm) d2 d3 d4 v1 v2
        exact ih _ _ _ _ s2 s3 s4 (steps_LT ⟨d3.1.W, v2⟩ (by omega))
