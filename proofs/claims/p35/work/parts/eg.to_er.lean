/-! eg.turn eh.copy ei.poke ej.tick ek.due el.names em.numb en.which eo.told ep.line eq.prog er.text -/
section
/-! whose turn it is, draws, ticks: alike -/
theorem RC.lt {m : Nat → Nat → Int32} {b : Nat} {W : Nat → Int32} (h : RC m b W) : ltc m b = lt1 W := by
  have g : m b 8 = W 12 := h.glob (k := 12) (by omega) (by omega)
  unfold ltc lt1
  rw [g]
theorem nextL_eq {m : Nat → Nat → Int32} {b : Nat} {W : Nat → Int32} (h : RC m b W) (hw : WG W) : ∀ (n k : Nat), 1 ≤ k → k + n = nv W 9 + 1 → xl_nextByTurn m b n k = l_nextOne W n k := by
  intro n
  induction n with
  | zero => intro k _ _; rfl
  | succ n ih =>
    intro k h1 hk
    rw [xl_nextByTurn, l_nextOne, ih _ (by omega) (by omega), h.lt, h.n9, sdone_eq h hw (Nat.mod_lt _ (by omega))]
theorem next_eq {m : Nat → Nat → Int32} {b : Nat} {W : Nat → Int32} (h : RC m b W) (hw : WG W) : x_nextByTurn m b = q_nextOne W := by
  unfold x_nextByTurn q_nextOne
  rw [h.n9]
  exact nextL_eq h hw _ _ (by omega) (by omega)
theorem doneL_eq {m : Nat → Nat → Int32} {b : Nat} {W : Nat → Int32} (h : RC m b W) (hw : WG W) : ∀ (n : Nat) (s : Int32) (k : Nat), k + n = nv W 9 → xl_doneBits m b n s k = l_doneOnes W n s k := by
  intro n
  induction n with
  | zero => intro s k _; rfl
  | succ n ih =>
    intro s k hk
    rw [xl_doneBits, l_doneOnes, ih _ _ (by omega), ih _ _ (by omega), sdone_eq h hw (by omega)]
theorem done_eq {m : Nat → Nat → Int32} {b : Nat} {W : Nat → Int32} (h : RC m b W) (hw : WG W) : x_doneBits m b = q_doneOnes W := by
  unfold x_doneBits q_doneOnes
  rw [h.n9]
  exact doneL_eq h hw _ _ _ (by omega)
theorem ndc_0 (W : Nat → Int32) : ∀ n k, ndc W n k = 0 → ∀ u, k ≤ u → u < k + n → dn W u = true := by
  intro n
  induction n with
  | zero => intro k _ u h1 h2; omega
  | succ n ih =>
    intro k h u h1 h2
    rw [ndc] at h
    by_cases e : u = k
    · subst e
      cases hd : dn W u with
      | true => rfl
      | false =>
        rw [hd] at h
        simp at h
    · refine ih (k + 1) ?_ u (by omega) (by omega)
      cases hd : dn W k with
      | true => rw [hd] at h; simpa using h
      | false => rw [hd] at h; simp at h
theorem next_none {W : Nat → Int32} (hd : ∀ u, u < nv W 9 → dn W u = true) : ∀ (n k : Nat), 1 ≤ k → k + n = nv W 9 + 1 → l_nextOne W n k = -1 := by
  intro n
  induction n with
  | zero => intro k _ _; rfl
  | succ n ih =>
    intro k h1 hk
    rw [l_nextOne, isDone_dn, hd _ (Nat.mod_lt _ (by omega)), cond_true, zn1, cond_true]
    exact ih _ (by omega) (by omega)
/-- all are done: nobody's turn -/
theorem all_next {W : Nat → Int32} (h : WG W) (hL : LT W) : zc2 .eq (q_nextOne W) (-1) = zc1 .ne (q_areAllDone W) := by
  cases hc : zc1 .ne (q_areAllDone W) with
  | false =>
    obtain ⟨v, v1, _, v2⟩ := next_ok h hL hc
    have h4 := h.N4
    have z : ∀ v, v < 4 → zc2 .eq (Int32.ofNat v) (-1) = false := by decide +kernel
    rw [v2]
    exact z v (by omega)
  | true =>
    obtain ⟨-, a⟩ := done_fin h.N h.N4
    have hz : ndc W (nv W 9) 0 = 0 := by
      rw [a] at hc
      cases hb : Nat.beq (ndc W (nv W 9) 0) 0 with
      | true => exact Nat.eq_of_beq_eq_true hb
      | false => rw [hb] at hc; exact absurd hc (by decide)
    have e : q_nextOne W = -1 := by
      unfold q_nextOne
      exact next_none (fun u hu => ndc_0 W _ _ hz u (by omega) (by omega)) _ _ (by omega) (by omega)
    rw [e]
    decide
theorem next_nine {W : Nat → Int32} (h : WG W) (hL : LT W) (hc : zc1 .ne (q_areAllDone W) = false) : nxn W < nv W 9 ∧ AL W (nxn W) := by
  obtain ⟨v, v1, v3, v2⟩ := next_ok h hL hc
  have h4 := h.N4
  have e : nxn W = v := by
    unfold nxn
    rw [v2, nv_on (by omega)]
  rw [e]
  exact ⟨v1, v3⟩
theorem steps_LT {W : Nat → Int32} {mm : Nat → Nat → Int32} {t : Nat} (h : KG W t) (ht : t < 4) : LT (q_steps mm W t).2.1 := LT_of (steps_ok (m := mm) h ht).2 ht
theorem goT_rx {b n0 q : Nat} : ∀ (n k : Nat) (m : Nat → Nat → Int32) (W : Nat → Int32) (mm : Nat → Nat → Int32), RC m 1 W → WY W → CG m 1 → LT W → (xl_goTurnL n0 n k m).1 = (l_goesT q n k W mm).1 ∧ RC (xl_goTurnL n0 n k m).2 1 (l_goesT q n k W mm).2.1 ∧ WY (l_goesT q n k W mm).2.1 ∧ CG (xl_goTurnL n0 n k m).2 1 ∧ LT (l_goesT q n k W mm).2.1 := by
  intro n
  induction n with
  | zero => intro k m W mm h hy hc hL; exact ⟨rfl, h, hy, hc, hL⟩
  | succ n ih =>
    intro k m W mm h hy hc hL
    have g7 : m 1 7 = W 11 := h.glob (k := 11) (by omega) (by omega)
    have e : (x_nextByTurn m 1).toNatClampNeg = nxn W := by rw [next_eq h hy.1.W]; rfl
    rw [xl_goTurnL, l_goesT, g7, e, next_eq h hy.1.W, zne2_n, all_next hy.1.W hL]
    cases hc1 : zc1 .ne (q_areAllDone W) with
    | true =>
      cases zc2 .ge (W 11) (Int32.ofNat 99999) with
      | true => simp only [cnT, cnF, Bool.not_true]; exact ⟨trivial, h, hy, hc, hL⟩
      | false => simp only [cnT, cnF, Bool.not_true]; exact ⟨trivial, h, hy, hc, hL⟩
    | false =>
      cases zc2 .ge (W 11) (Int32.ofNat 99999) with
      | true => simp only [cnT, cnF]; exact ⟨trivial, h, hy, hc, hL⟩
      | false =>
        simp only [cnT, cnF, Bool.not_false]
        obtain ⟨v1, v2⟩ := next_nine hy.1.W hL hc1
        have h4 := hy.1.W.N4
        obtain ⟨-, s2, s3, s4⟩ := step_ry (mm := mm) h hy hc v1 v2
        exact ih _ _ _ _ s2 s3 s4 (steps_LT ⟨hy.1.W, v2⟩ (by omega))
theorem drawn_eq {m : Nat → Nat → Int32} {b n9 : Nat} {W : Nat → Int32} (h : RC m b W) (hw : WG W) : ∀ (n : Nat) (a : Int32) (k : Nat), k + n = nv W 9 → xl_nextByDraw m b n a k = l_drawnOne W n9 n a k := by
  intro n
  induction n with
  | zero => intro a k _; rfl
  | succ n ih =>
    intro a k hk
    rw [xl_nextByDraw, l_drawnOne, ih _ _ (by omega), ih _ _ (by omega), sdone_eq h hw (by omega), zne_n (q_isDone W k)]
    cases zc1 .eq (q_isDone W k) <;> rfl
/-- a draw, where someone is not done -/
theorem draw_rx {m : Nat → Nat → Int32} {b : Nat} {W : Nat → Int32} (h : RC m b W) (hy : WY W) (hc : CG m b) (hd : zc1 .ne (q_areAllDone W) = false) : (x_nextByDraw m b).1 = (q_drawnOne W).1 ∧ RC (x_nextByDraw m b).2 b (q_drawnOne W).2 ∧ WY (q_drawnOne W).2 ∧ CG (x_nextByDraw m b).2 b := by
  have g5 : m b 5 = q_threads W := h.glob (k := 9) (by omega) (by omega)
  have g9 : m b 9 = W 13 := h.glob (k := 13) (by omega) (by omega)
  have hb := draw_b hy.1.W.N hy.1.W.N4
  have h1 := left0 hy.1.W hd
  have hle := ndc_le W (nv W 9) 0
  have h4 := hy.1.W.N4
  have z : zc2 .ge (Int32.ofNat (ndc W (nv W 9) 0)) (Int32.ofNat 1) = true := zcge (by omega) (by omega) h1
  have r := h.globS (k := 13) (o := 0) (s := 9) (x := W 13 * Int32.ofNat 1103515245 + Int32.ofNat 12345) hy.1.W.C (by omega) (by omega) (by omega) rfl
  rw [Nat.add_zero] at r
  have x1 : WX (upd W 13 (W 13 * Int32.ofNat 1103515245 + Int32.ofNat 12345)) := hy.1.glob (by omega) (by omega) (by omega)
  have y1 : WY (upd W 13 (W 13 * Int32.ofNat 1103515245 + Int32.ofNat 12345)) := ⟨x1, hy.2.pg (by omega) (by omega)⟩
  have c1 : CG (zm2 m b 9 (W 13 * Int32.ofNat 1103515245 + Int32.ofNat 12345)) b := hc.put _ (ncM (by omega) (by omega))
  have n9 : nv (upd W 13 (W 13 * Int32.ofNat 1103515245 + Int32.ofNat 12345)) 9 = nv W 9 := nv_of (upd_ne _ _ (by omega))
  unfold x_nextByDraw q_drawnOne x_draw q_drawOf
  rw [g5, bitCount_eq, done_eq h hy.1.W, hb, z, g9]
  simp only [cnT]
  rw [zx_at, upd_at]
  refine ⟨?_, r, y1, c1⟩
  rw [r.n9, n9]
  exact drawn_eq r x1.W _ _ _ (by omega)
theorem drawn_nine {W : Nat → Int32} (h : WG W) (hc : zc1 .ne (q_areAllDone W) = false) : dxn W < nv (q_drawnOne W).2 9 ∧ AL (q_drawnOne W).2 (dxn W) := by
  obtain ⟨v, v1, v3, v2⟩ := drawn_ok h hc
  have h4 := h.N4
  have e : dxn W = v := by
    unfold dxn
    rw [v2, nv_on (by omega)]
  have e2 : (q_drawnOne W).2 = upd W 13 (W 13 * Int32.ofNat 1103515245 + Int32.ofNat 12345) := rfl
  have e9 : nv (q_drawnOne W).2 9 = nv W 9 := by
    rw [e2]
    exact nv_of (upd_ne _ _ (by omega))
  rw [e, e9]
  exact ⟨v1, v3⟩
theorem all_ndc {W : Nat → Int32} (h : WG W) (hc : zc1 .ne (q_areAllDone W) = true) : ndc W (nv W 9) 0 = 0 := by
  obtain ⟨-, a⟩ := done_fin h.N h.N4
  rw [a] at hc
  cases hb : Nat.beq (ndc W (nv W 9) 0) 0 with
  | true => exact Nat.eq_of_beq_eq_true hb
  | false => rw [hb] at hc; exact absurd hc (by decide)
theorem draw_none {m : Nat → Nat → Int32} {b : Nat} {W : Nat → Int32} (h : RC m b W) (hw : WG W) (hd : zc1 .ne (q_areAllDone W) = true) : x_nextByDraw m b = (-1, m) := by
  have g5 : m b 5 = q_threads W := h.glob (k := 9) (by omega) (by omega)
  have hb := draw_b hw.N hw.N4
  have z : zc2 .ge (Int32.ofNat 0) (Int32.ofNat 1) = false := by decide
  unfold x_nextByDraw
  rw [g5, bitCount_eq, done_eq h hw, hb, all_ndc hw hd, z, cond_false]
theorem goD_rx {n0 q : Nat} : ∀ (n k : Nat) (m : Nat → Nat → Int32) (W : Nat → Int32) (mm : Nat → Nat → Int32), RC m 1 W → WY W → CG m 1 → LT W → (xl_goDrawL n0 n k m).1 = (l_goesD q n k W mm).1 ∧ RC (xl_goDrawL n0 n k m).2 1 (l_goesD q n k W mm).2.1 ∧ WY (l_goesD q n k W mm).2.1 ∧ CG (xl_goDrawL n0 n k m).2 1 ∧ LT (l_goesD q n k W mm).2.1 := by
  intro n
  induction n with
  | zero => intro k m W mm h hy hc hL; exact ⟨rfl, h, hy, hc, hL⟩
  | succ n ih =>
    intro k m W mm h hy hc hL
    have g7 : m 1 7 = W 11 := h.glob (k := 11) (by omega) (by omega)
    rw [xl_goDrawL, l_goesD, g7]
    cases hc1 : zc1 .ne (q_areAllDone W) with
    | true =>
      rw [draw_none h hy.1.W hc1]
      dsimp only
      rw [show zc2 .ne (-1 : Int32) (-1) = false from by decide]
      cases zc2 .ge (W 11) (Int32.ofNat 99999) with
      | true => simp only [cnT]; exact ⟨trivial, h, hy, hc, hL⟩
      | false => simp only [cnT, cnF]; exact ⟨trivial, h, hy, hc, hL⟩
    | false =>
      cases zc2 .ge (W 11) (Int32.ofNat 99999) with
      | true => simp only [cnT, cnF]; exact ⟨trivial, h, hy, hc, hL⟩
      | false =>
        simp only [cnF]
        obtain ⟨d1, d2, d3, d4⟩ := draw_rx h hy hc hc1
        obtain ⟨v1, v2⟩ := drawn_nine hy.1.W hc1
        have h4 := d3.1.W.N4
        have hv : (q_drawnOne W).1 = Int32.ofNat (dxn W) := (drawn_n hy.1.W hc1).1
        have ne : zc2 .ne (x_nextByDraw m 1).1 (-1) = true := by
          have z : ∀ v, v < 4 → zc2 .ne (Int32.ofNat v) (-1) = true := by decide +kernel
          rw [d1, hv]
          exact z _ (by omega)
        have e : (x_nextByDraw m 1).1.toNatClampNeg = dxn W := by rw [d1]; rfl
        rw [ne, cond_true, e]
        obtain ⟨-, s2, s3, s4⟩ := step_ry (mm := mm) d2 d3 d4 v1 v2
        exact ih _ _ _ _ s2 s3 s4 (steps_LT ⟨d3.1.W, v2⟩ (by omega))
end
section
/-! a copy of a machine holds the same world -/
noncomputable def mvb (o k : Nat) : Bool := decide (((o = 0 ∧ (k = 6 ∨ k = 7 ∨ k = 8 ∨ k = 9 ∨ k = 12)) ∨ (o = 38 ∧ k < 20) ∨ (o = 39 ∧ k < 20) ∨ (o = 40 ∧ (k = 1 ∨ k = 2)) ∨ (o = 41 ∧ k < 240)) ∨ (o = 1 ∧ k < 32) ∨ (o = 2 ∧ k < 32) ∨ (o = 3 ∧ k < 9) ∨ (5 ≤ o ∧ o < 9 ∧ k < 4) ∨ (o = 0 ∧ k = 5))
theorem mvb_ok {o k : Nat} (h : mvb o k = true) : mvc o k := by
  unfold mvb at h
  have q := of_decide_eq_true h
  exact q
noncomputable def svb (j k : Nat) : Bool := decide ((j = 0 ∧ 2 ≤ k ∧ k ≤ 7) ∨ (j = 1 ∧ k < 24) ∨ (j = 2 ∧ k < 24) ∨ (j = 3 ∧ k < 5) ∨ (j = 4 ∧ k ≤ 9 ∧ k ≠ 4 ∧ k ≠ 8) ∨ (j = 5 ∧ k < 4) ∨ (j = 6 ∧ k < 32))
theorem svb_ok {j k : Nat} (h : svb j k = true) : svc j k := by
  unfold svb at h
  have q := of_decide_eq_true h
  exact q
theorem cm_mv : (List.range 136).all (fun k => k == 15 || mvb (cm k).1 (cm k).2) = true := by decide +kernel
theorem cmT_sv : (List.range 103).all (fun c => Nat.ble 10 (cmT 0 c).1 && svb ((cmT 0 c).1 - 10) (cmT 0 c).2) = true := by decide +kernel
theorem cmT_0 (t c : Nat) : cmT t c = ((cmT 0 c).1 + 7 * t, (cmT 0 c).2) := by
  unfold cmT
  by_cases h0 : c = 0
  · rw [if_pos h0, if_pos h0]
  · rw [if_neg h0, if_neg h0]
    by_cases h1 : c = 1
    · rw [if_pos h1, if_pos h1]
    · rw [if_neg h1, if_neg h1]
      by_cases h2 : c = 2
      · rw [if_pos h2, if_pos h2]
      · rw [if_neg h2, if_neg h2]
        by_cases h3 : c = 3
        · rw [if_pos h3, if_pos h3]
        · rw [if_neg h3, if_neg h3]
          by_cases h4 : c = 4
          · rw [if_pos h4, if_pos h4]
          · rw [if_neg h4, if_neg h4]
            by_cases h5 : c < 10
            · rw [if_pos h5, if_pos h5]
            · rw [if_neg h5, if_neg h5]
              by_cases h6 : c = 10
              · rw [if_pos h6, if_pos h6]
              · rw [if_neg h6, if_neg h6]
                by_cases h7 : c < 15
                · rw [if_pos h7, if_pos h7]
                · rw [if_neg h7, if_neg h7]
                  by_cases h8 : c = 15
                  · rw [if_pos h8, if_pos h8]
                  · rw [if_neg h8, if_neg h8]
                    by_cases h9 : c = 16
                    · rw [if_pos h9, if_pos h9]
                    · rw [if_neg h9, if_neg h9]
                      by_cases h10 : c = 17
                      · rw [if_pos h10, if_pos h10]
                      · rw [if_neg h10, if_neg h10]
                        by_cases h11 : c < 21
                        · rw [if_pos h11, if_pos h11]
                        · rw [if_neg h11, if_neg h11]
                          by_cases h12 : c = 21
                          · rw [if_pos h12, if_pos h12]
                          · rw [if_neg h12, if_neg h12]
                            by_cases h13 : c = 22
                            · rw [if_pos h13, if_pos h13]
                            · rw [if_neg h13, if_neg h13]
                              by_cases h14 : c < 55
                              · rw [if_pos h14, if_pos h14]
                              · rw [if_neg h14, if_neg h14]
                                by_cases h15 : (c - 55) % 2 = 0
                                · rw [if_pos h15, if_pos h15]
                                · rw [if_neg h15, if_neg h15]
theorem cmT_s {c : Nat} (hc : c < 103) : ∃ j s, svc j s ∧ ∀ t, cmT t c = (10 + j + 7 * t, s) := by
  have a := List.all_eq_true.mp cmT_sv c (List.mem_range.mpr hc)
  rw [Bool.and_eq_true] at a
  have h1 := Nat.le_of_ble_eq_true a.1
  refine ⟨(cmT 0 c).1 - 10, (cmT 0 c).2, svb_ok a.2, fun t => ?_⟩
  rw [cmT_0 t c, show 10 + ((cmT 0 c).1 - 10) = (cmT 0 c).1 by omega]
theorem RC.copy {m : Nat → Nat → Int32} {b c : Nat} {W : Nat → Int32} (h : RC m c W) (hw : WG W) (hbc : b + 42 ≤ c ∨ c + 42 ≤ b) (hc : CG m c) : RC (x_copyFrom m b c) b W := by
  obtain ⟨-, g2, g3⟩ := copy_all hbc hc.c hc.c4
  have h4 := hw.N4
  have h60 := hw.C.2
  obtain ⟨⟨l1, l2⟩, l3⟩ := h
  have n9 : mv m c 5 = nv W 9 := RC.n9 ⟨⟨l1, l2⟩, l3⟩
  have e2 : mv (x_copyFrom m b c) (b + 40) 2 = mv m (c + 40) 2 := by
    unfold mv
    rw [g2 40 2 (mvb_ok (by decide))]
  refine ⟨⟨(g2 40 1 (mvb_ok (by decide))).trans l1, fun a k ha hk => ?_⟩, fun k hk => ?_⟩
  · rw [e2, g2 41 _ (Or.inl (Or.inr (Or.inr (Or.inr (Or.inr ⟨rfl, by omega⟩)))))]
    exact l2 a k ha hk
  · rw [← l3 k hk]
    obtain ⟨a1, a2, a3⟩ := hk
    rcases a3 with a3 | ⟨a3, a4⟩
    · have q := List.all_eq_true.mp cm_mv k (List.mem_range.mpr a3)
      have b1 : (k == 15) = false := by
        cases hb : (k == 15) with
        | false => rfl
        | true => exact absurd (eq_of_beq hb) a2
      rw [b1, Bool.false_or] at q
      exact g2 _ _ (mvb_ok q)
    · have hu : (k - 376) / 103 < mv m c 5 := by rw [n9]; exact a4.1
      obtain ⟨j, s, js, e⟩ := cmT_s (c := (k - 376) % 103) (Nat.mod_lt _ (by omega))
      have ek : k = 376 + 103 * ((k - 376) / 103) + (k - 376) % 103 := by omega
      have ec : cm k = (10 + j + 7 * ((k - 376) / 103), s) := by
        rw [← e, ← cm_at (t := (k - 376) / 103) (c := (k - 376) % 103) (by omega) (Nat.mod_lt _ (by omega)), ← ek]
      rw [ec]
      dsimp only
      rw [show b + (10 + j + 7 * ((k - 376) / 103)) = b + (10 + j) + 7 * ((k - 376) / 103) by omega, show c + (10 + j + 7 * ((k - 376) / 103)) = c + (10 + j) + 7 * ((k - 376) / 103) by omega]
      exact g3 _ j s hu js
/-- what lies elsewhere doesn't matter -/
theorem RC.far {m m' : Nat → Nat → Int32} {b : Nat} {W : Nat → Int32} (h : RC m b W) (e : ∀ i l, b ≤ i → i < b + 42 → m' i l = m i l) : RC m' b W := by
  have B : (List.range 788).all (fun k => Nat.blt (cm k).1 42) = true := by decide +kernel
  obtain ⟨⟨l1, l2⟩, l3⟩ := h
  have e2 : mv m' (b + 40) 2 = mv m (b + 40) 2 := by
    unfold mv
    rw [e _ _ (by omega) (by omega)]
  refine ⟨⟨(e _ _ (by omega) (by omega)).trans l1, fun a k ha hk => ?_⟩, fun k hk => ?_⟩
  · rw [e2, e _ _ (by omega) (by omega)]
    exact l2 a k ha hk
  · have q : (cm k).1 < 42 := Nat.le_of_ble_eq_true (List.all_eq_true.mp B k (List.mem_range.mpr hk.1))
    rw [e _ _ (by omega) (by omega)]
    exact l3 k hk
end
section
/-! a word that is poked, alike -/
theorem reachXL_rx {b w n5 : Nat} {v x r s : Int32} {tt : Int32} (hn : n5 ≤ 4) : ∀ (n k : Nat) (m : Nat → Nat → Int32) (W : Nat → Int32), k + n = n5 → RC m b W → WY W → CG m b → nv W 9 = n5 → (∀ j, k ≤ j → j < n5 → zc1 .eq (q_holds s j) = false → W (376 + 103 * j + 2) = Int32.ofNat 1) → ∃ m', xl_reachXL b w v x r s n5 n k m = x_reachXC m' b w v x r s ∧ (l_clears tt s n5 n k W).1 = Int32.ofNat 1 ∧ RC m' b (l_clears tt s n5 n k W).2 ∧ WY (l_clears tt s n5 n k W).2 ∧ CG m' b := by
  intro n
  induction n with
  | zero => intro k m W hk h hw hc h9 hs; exact ⟨m, rfl, rfl, h, hw, hc⟩
  | succ n ih =>
    intro k m W hk h hw hc h9 hs
    rw [xl_reachXL, l_clears, bit_eq]
    cases hb : zc1 .eq (q_holds s k) with
    | true =>
      simp only [cond_true]
      exact ih _ _ _ (by omega) h hw hc h9 (fun j a b c => hs j (by omega) b c)
    | false =>
      simp only [cond_false]
      have hg := hs k (by omega) (by omega) hb
      have h9' : nv (q_falls W k 0) 9 = n5 := by rw [nv_of (falls_6 hw.1.W (by omega) (by omega) (by omega))]; exact h9
      exact ih (k + 1) (x_fall m b k 0).2 (q_falls W k 0) (by omega) (h.fall2 hw.1.1 hc (by omega) (by omega) hg) ⟨hw.1.falls (by omega) (by omega), hw.2.falls hw.1.W (by omega) (by omega)⟩ (hc.fall (by omega) (by omega)) h9' (fun j a b c => by
        rw [falls_2 hw.1.W (by omega) (by omega) (by omega) (by omega) (by omega)]
        exact hs j (by omega) b c)
theorem poke_rx {m : Nat → Nat → Int32} {b : Nat} {W : Nat → Int32} {w : Nat} {v : Int32} (h : RC m b W) (hy : WY W) (hc : CG m b) (hw : w < 32) (hv : ¬ v = -1) (hx : vx v) : RC (x_reachX m b w v).2 b (q_writesX W w v).2 ∧ WY (q_writesX W w v).2 ∧ CG (x_reachX m b w v).2 b := by
  have h4 := hy.1.W.N4
  have hcg := clash_guess (u := -1) (x := q_blockOf W (Int32.ofNat w)) (r := Int32.ofNat 1) hy.1.W hy.1.G
  unfold x_reachX q_writesX q_clearsX
  rw [show zc2 .eq v (-1) = false from decide_eq_false hv, cond_false, block_eq h hy.1.W, holders_eq h hy.1.W hy.1.G, h.n9]
  generalize q_clash W (-1) (q_blockOf W (Int32.ofNat w)) (Int32.ofNat 1) = s at hcg ⊢
  obtain ⟨m', e1, e2, e3, e4, e5⟩ := reachXL_rx (w := w) (v := v) (x := q_blockOf W (Int32.ofNat w)) (r := Int32.ofNat 1) (s := s) (tt := -1) h4 (nv W 9) 0 m W (by omega) h hy hc rfl (fun j _ hj hb => hcg j (by omega) hj hb)
  rw [e1, e2, zn1, cond_true]
  unfold x_reachXC
  rw [zeq1', cond_false]
  exact ⟨e3.globS e4.1.W.C (by omega) (by omega) (by omega) (cm_w hw), ⟨e4.1.glob (by omega) (by omega) (by omega), e4.2.put (fun _ => hx)⟩, e5.put _ ncW⟩
end
section
/-! a deed leaves the terms, the counts and the tick alone; a step counts one tick -/
noncomputable def KK (k : Nat) (W : Nat → Int32) (q : QT) : Prop := q.2.1 k = W k
theorem clears_k {mm : Nat → Nat → Int32} {W : Nat → Int32} {t k : Nat} {s : Int32} (hk : k < 15) (hw : WG W) (ht : t < 4) : (q_clears mm W t s).2.1 k = W k := by
  have L : ∀ (n j : Nat) (V : Nat → Int32), j + n = nv W 9 → WG V → (l_clears (Int32.ofNat t) s (nv W 9) n j V).2 k = V k := by
    have h4 := hw.N4
    intro n
    induction n with
    | zero => intro j V _ _; rfl
    | succ n ih =>
      intro j V hj hV
      rw [l_clears]
      cases zc1 .eq (q_holds s j) with
      | true => exact ih _ _ (by omega) hV
      | false => exact (ih _ _ (by omega) (hV.falls (by omega) (by omega))).trans (falls_6 hV (by omega) (by omega) hk)
  unfold q_clears
  cases zc1 .eq (q_yields W t s) with
  | true => exact L _ _ _ (by omega) hw
  | false => exact falls_6 hw ht (by omega) hk
theorem reads_k {mm : Nat → Nat → Int32} {W : Nat → Int32} {t k : Nat} {w : Int32} (hk : k < 15) (hw : WG W) (ht : t < 4) : KK k W (q_reads mm W t w) := by
  have e := clears_k (mm := mm) (s := q_clash W (Int32.ofNat t) (q_blockOf W w) (Int32.ofNat 0)) hk hw ht
  unfold q_reads
  generalize q_clears mm W t (q_clash W (Int32.ofNat t) (q_blockOf W w) (Int32.ofNat 0)) = c at e ⊢
  refine cndi (KK k W) (cndi (KK k W) e ?_) e
  unfold KK
  dsimp only
  rw [upd_ne _ _ (by omega)]
  exact e
theorem writesB_k {mm : Nat → Nat → Int32} {W : Nat → Int32} {t w k : Nat} {v x g : Int32} (hk : k < 15) (hw : WG W) (ht : t < 4) : KK k W (q_writesB mm W t w v x g) := by
  have e := clears_k (mm := mm) (s := q_clash W (Int32.ofNat t) x (Int32.ofNat 1)) hk hw ht
  unfold q_writesB
  generalize q_clears mm W t (q_clash W (Int32.ofNat t) x (Int32.ofNat 1)) = c at e ⊢
  refine cndi (KK k W) (cndi (KK k W) ?_ ?_) e
  · unfold KK
    dsimp only
    rw [upd_ne _ _ (by omega)]
    exact e
  · unfold KK
    dsimp only
    rw [upd_ne _ _ (by omega), upd_ne _ _ (by omega), upd_ne _ _ (by omega)]
    exact e
theorem writes_k {mm : Nat → Nat → Int32} {W : Nat → Int32} {t w k : Nat} {v : Int32} (hk : k < 15) (hw : WG W) (ht : t < 4) : KK k W (q_writes mm W t w v) := by
  unfold q_writes
  exact cndi (KK k W) (writesB_k hk hw ht) (cndi (KK k W) (writesB_k hk hw ht) (cndi (KK k W) (writesB_k hk hw ht) (falls_6 hw ht (by omega) hk)))
theorem isTaken_k {V : Nat → Int32} {t l k : Nat} (hk : k < 15) (hw : WG V) : q_isTaken V t l k = V k := by
  have C1 : WC (upd (upd V (376 + 103 * t + 3) (Int32.ofNat 0)) (24 + l) (upd V (376 + 103 * t + 3) (Int32.ofNat 0) (24 + l) + Int32.ofNat 1)) := WC_of (by simp (disch := omega) only [upd_ne]) hw.C
  unfold q_isTaken
  refine cndi (fun q : Nat → Int32 => q k = V k) ?_ ?_
  · rw [logs_fr C1 (by omega) (by omega)]
    simp (disch := omega) only [upd_ne]
  · rw [logs_fr (WC_of (upd_ne _ _ (by omega)) C1) (by omega) (by omega)]
    simp (disch := omega) only [upd_ne]
theorem begins_k {W : Nat → Int32} {t l k : Nat} (hk : k < 15) (hw : WG W) (hl : nv W (376 + 103 * t + 10) < 4) : q_beginsGuess W t l k = W k := by
  have e10 : ∀ a c d f g : Int32, nv (upd (upd (upd (upd (upd W (376 + 103 * t + 2) a) (376 + 103 * t + 18) c) (376 + 103 * t + 19) d) (376 + 103 * t + 20) f) (376 + 103 * t + 15) g) (376 + 103 * t + 10) = nv W (376 + 103 * t + 10) := fun a c d f g => nv_of (by simp (disch := omega) only [upd_ne])
  unfold q_beginsGuess q_leavesOut
  rw [e10, logs_fr (WC_of (by simp (disch := omega) only [upd_ne]) hw.C) (by omega) (by omega)]
  simp (disch := omega) only [upd_ne]
theorem isKept_k {t l k : Nat} (hk : k < 15) : ∀ (n j : Nat) (W : Nat → Int32), j + n = 32 → WC W → l_isKept t l n j W k = W k := by
  intro n
  induction n with
  | zero =>
    intro j W _ C
    rw [l_isKept, logs_fr (WC_of (by simp (disch := omega) only [q_ends, upd_ne]) C) (by omega) (by omega)]
    simp (disch := omega) only [q_ends, upd_ne]
  | succ n ih =>
    intro j W hj C
    rw [l_isKept]
    cases zc1 .eq (q_holds (q_of W t 17) j) with
    | true => exact ih _ _ (by omega) C
    | false => exact (ih (j + 1) (upd W (32 + j) (q_of W t (23 + j))) (by omega) (WC_of (upd_ne _ _ (by omega)) C)).trans (upd_ne _ _ (by omega))
theorem takes_k {W : Nat → Int32} {mm : Nat → Nat → Int32} {t l k : Nat} (hk : k < 15) (h : KG W t) (ht : t < 4) (hl : l < 4) : KK k W (q_takes mm W t l) := by
  have r := reads_k (mm := mm) (k := k) (w := Int32.ofNat (nv W (16 + l))) hk h.1 ht
  have kg := h.reads (m := mm) ht (Int32.ofNat (nv W (16 + l)))
  unfold q_takes
  generalize q_reads mm W t (Int32.ofNat (nv W (16 + l))) = c at r kg ⊢
  refine cndi (KK k W) ?_ r
  have r' : c.2.1 k = W k := r
  have F : ∀ f : Int32, KK k W (q_takesC c.2.2 c.2.1 t l (nv W (16 + l)) f) := by
    intro f
    have aD : KK k W (q_takesD c.2.2 c.2.1 t l (nv W (16 + l)) f) := by
      unfold q_takesD
      exact cndi (KK k W) ((falls_6 kg.1 ht (by omega) hk).trans r') ((falls_6 kg.1 ht (by omega) hk).trans r')
    have w : (q_writes c.2.2 c.2.1 t (nv W (16 + l)) (Int32.ofNat 1)).2.1 k = W k := (writes_k (mm := c.2.2) (w := nv W (16 + l)) (v := Int32.ofNat 1) hk kg.1 ht).trans r'
    have kw := (kg.writes (m := c.2.2) (w := nv W (16 + l)) ht (h.1.lk32 hl) (Int32.ofNat 1)).1
    unfold q_takesC
    refine cndh (KK k W) (fun h1 => ?_) (fun h1 => ?_)
    · exact cndi (KK k W) (cndi (KK k W) ((isTaken_k hk kw).trans w) (cndi (KK k W) ((isTaken_k hk kw).trans w) ((begins_k hk kg.1 (kg.1.idle ht h1)).trans r'))) r'
    · refine cndi (KK k W) aD (cndi (KK k W) (cndh (KK k W) (fun h2 => ?_) (fun _ => w)) aD)
      have q4 := zlt4 kg.1 ht h2
      unfold KK q_leavesOut
      dsimp only
      rw [upd_ne _ _ (by omega), upd_ne _ _ (by omega)]
      exact r'
  unfold q_takesB
  exact cndi (KK k W) (F _) (F _)
theorem drops_k {W : Nat → Int32} {mm : Nat → Nat → Int32} {t l k : Nat} (hk : k < 15) (h : KG W t) (ht : t < 4) (hl : l < 4) : KK k W (q_drops mm W t l) := by
  have w := writes_k (mm := mm) (k := k) (w := nv W (16 + l)) (v := Int32.ofNat 0) hk h.1 ht
  have kw := (h.writes (m := mm) (w := nv W (16 + l)) ht (h.1.lk32 hl) (Int32.ofNat 0)).1
  unfold q_drops
  refine cndi (KK k W) (cndi (KK k W) (cndi (KK k W) ?_ (isKept_k hk _ _ _ rfl h.1.C)) (falls_6 h.1 ht (by omega) hk)) (cndi (KK k W) (cndi (KK k W) ((logs_fr kw.C (by omega) (by omega)).trans w) w) (cndi (KK k W) w w))
  unfold KK
  dsimp only
  rw [upd_ne _ _ (by omega)]
theorem does_k {W : Nat → Int32} {mm : Nat → Nat → Int32} {t K n k : Nat} (hk : k < 14) (h : KG W t) (ht : t < 4) (hn1 : K ≤ 1 → n ≤ 3) (hn3 : K ≤ 3 → n ≤ 31) : KK k W (q_does mm W t K n) := by
  match K, hn1, hn3 with
  | 0, hn1, _ => exact takes_k (by omega) h ht (Nat.lt_succ_of_le (hn1 (by omega)))
  | 1, hn1, _ => exact drops_k (by omega) h ht (Nat.lt_succ_of_le (hn1 (by omega)))
  | 2, _, hn3 =>
    have r := reads_k (mm := mm) (k := k) (w := Int32.ofNat n) (by omega) h.1 ht
    show KK k W (q_does2 mm W t n)
    unfold q_does2
    generalize q_reads mm W t (Int32.ofNat n) = c at r ⊢
    refine cndi (KK k W) ?_ r
    unfold KK at r ⊢
    dsimp only
    rw [upd_ne _ _ (by omega)]
    exact r
  | 3, _, _ => exact writes_k (mm := mm) (by omega) h.1 ht
  | 4, _, _ =>
    show upd W (376 + 103 * t + 1) (Int32.ofNat n) k = W k
    exact upd_ne _ _ (by omega)
  | 5, _, _ =>
    show upd W (376 + 103 * t + 1) _ k = W k
    exact upd_ne _ _ (by omega)
  | 6, _, _ =>
    show (q_works W t (Int32.ofNat n)).2 k = W k
    unfold q_works
    refine cndi (fun q : Int32 × (Nat → Int32) => q.2 k = W k) ?_ ?_
    · dsimp only
      rw [upd_ne _ _ (by omega), upd_ne _ _ (by omega)]
    · dsimp only
      rw [upd_ne _ _ (by omega)]
  | j + 7, _, _ =>
    have e : q_does mm W t (j + 7) n = q_putsOut mm W t := by
      cases j <;> rfl
    rw [e]
    have o14 := h.1.1.2.2.2.2.1.2.2
    unfold q_putsOut
    refine cndi (KK k W) (cndi (KK k W) (logs_fr h.1.C (by omega) (by omega)) ?_) (falls_6 h.1 ht (by omega) (by omega))
    unfold KK
    dsimp only
    rw [logs_fr (WC_of (by simp (disch := omega) only [upd_ne]) h.1.C) (by omega) (by omega)]
    simp (disch := omega) only [upd_ne]
theorem stepsE_11 {W : Nat → Int32} {mm : Nat → Nat → Int32} {t : Nat} {on : Int32} : (q_stepsE mm W t on).2 11 = W 11 + Int32.ofNat 1 := by
  unfold q_stepsE
  have e : upd (upd W 12 (Int32.ofNat t)) 11 (upd W 12 (Int32.ofNat t) 11 + Int32.ofNat 1) 11 = W 11 + Int32.ofNat 1 := by
    rw [upd_at, upd_ne _ _ (by omega)]
  exact cndi (fun q : Int32 × (Nat → Int32) => q.2 11 = W 11 + Int32.ofNat 1) (cndi (fun q : Int32 × (Nat → Int32) => q.2 11 = W 11 + Int32.ofNat 1) e e) e
theorem steps_11 {W : Nat → Int32} {mm : Nat → Nat → Int32} {t : Nat} (h : KG W t) (ht : t < 4) : (q_steps mm W t).2.1 11 = W 11 + Int32.ofNat 1 := by
  obtain ⟨d24, D1, D2, D3, D4⟩ := h.deed ht
  have d := does_k (mm := zm2 mm 137 5 (Int32.ofNat 0)) (k := 11) (by omega) h ht D3 D4
  have kg := (does_ok (m := zm2 mm 137 5 (Int32.ofNat 0)) (n := nv W (376 + 103 * t + (55 + 2 * nv W (376 + 103 * t + 0) + 1))) h ht (K := nv W (376 + 103 * t + (55 + 2 * nv W (376 + 103 * t + 0)))) (by have := D1.2.2; omega) D3 D4).1
  unfold q_steps
  generalize q_does (zm2 mm 137 5 (Int32.ofNat 0)) W t (nv W (376 + 103 * t + (55 + 2 * nv W (376 + 103 * t + 0)))) (nv W (376 + 103 * t + (55 + 2 * nv W (376 + 103 * t + 0) + 1))) = c at d kg ⊢
  have d' : c.2.1 11 = W 11 := d
  have w := kg.adv ht
  have e1 : upd c.2.1 (376 + 103 * t + 0) (c.2.1 (376 + 103 * t + 0) + Int32.ofNat 1) 11 = W 11 := (upd_ne _ _ (by omega)).trans d'
  refine cndi (fun q : QT => q.2.1 11 = W 11 + Int32.ofNat 1) (stepsE_11.trans (by rw [d'])) ?_
  generalize upd c.2.1 (376 + 103 * t + 0) (c.2.1 (376 + 103 * t + 0) + Int32.ofNat 1) = V at w e1 ⊢
  unfold q_stepsD
  refine cndi (fun q : QT => q.2.1 11 = W 11 + Int32.ofNat 1) (stepsE_11.trans (by rw [e1])) (cndi (fun q : QT => q.2.1 11 = W 11 + Int32.ofNat 1) (stepsE_11.trans ?_) ?_)
  · rw [logs_fr w.C (by omega) (by omega), e1]
  · dsimp only
    rw [stepsE_11]
    show q_falls V t 2 11 + Int32.ofNat 1 = W 11 + Int32.ofNat 1
    rw [falls_6 w ht (by omega) (by omega), e1]
/-- ticks go to 99999 at most -/
noncomputable def TK (W : Nat → Int32) : Prop := ok W 11 0 99999
theorem steps_TK {W : Nat → Int32} {mm : Nat → Nat → Int32} {t : Nat} (h : KG W t) (ht : t < 4) (hT : TK W) (hl : zc2 .ge (W 11) (Int32.ofNat 99999) = false) : TK (q_steps mm W t).2.1 := by
  have hn : nv W 11 < 99999 := by
    rw [zge_n, hT.1] at hl
    have h2 := hT.2.2
    cases hq : zc2 .lt (Int32.ofNat (nv W 11)) (Int32.ofNat 99999) with
    | true => exact zlt_t (by omega) (by omega) hq
    | false => rw [hq] at hl; exact absurd hl (by decide)
  refine ok.is (n := nv W 11 + 1) ?_ (by omega) (by omega) (by omega)
  rw [steps_11 h ht, ← i_add, ← hT.1]
end
section
/-! ticks ahead alike: due, plain, quickest; worlds alike below 788 -/
theorem RC.of {m : Nat → Nat → Int32} {b : Nat} {W V : Nat → Int32} (h : RC m b W) (hw : WG W) (e : ∀ k, k < 788 → V k = W k) : RC m b V := by
  have hC := hw.C.2
  obtain ⟨⟨h1, h2⟩, h3⟩ := h
  have n : ∀ k, k < 788 → nv V k = nv W k := fun k hk => nv_of (e k hk)
  refine ⟨⟨h1.trans (e 15 (by omega)).symm, fun a c ha hc => ?_⟩, fun k hk => ?_⟩
  · rw [n 15 (by omega)] at ha ⊢
    rw [e _ (by omega)]
    exact h2 a c ha hc
  · obtain ⟨k1, k2, k3⟩ := hk
    rw [e k k1]
    refine h3 k ⟨k1, k2, ?_⟩
    rcases k3 with k3 | ⟨k3, a1, a2, a3, a4, a5⟩
    · exact Or.inl k3
    · refine Or.inr ⟨k3, ?_, fun q => ?_, fun q => ?_, fun q => ?_, fun q => ?_⟩
      · rw [← n 9 (by omega)]; exact a1
      · rw [← n _ (by omega)]; exact a2 q
      · rw [← e _ (by omega)]; exact a3 q
      · rw [← e _ (by omega)]; exact a4 q
      · rw [← n _ (by omega)]; exact a5 q
theorem WX.of {W V : Nat → Int32} (h : WX W) (e : ∀ k, k < 788 → V k = W k) : WX V := WX.mk (WG_of h.W e) (h.1.2.2.2.of (fun k hk => e k (by omega))) (h.2.1.of (e _ (by omega))) (h.2.2.1.of (e _ (by omega))) (fun t ht => (h.T ht).of h.W ht (fun c hc _ => e _ (by omega)))
theorem SB.of {W V : Nat → Int32} (h : SB W) (e : ∀ k, k < 788 → V k = W k) : SB V := fun k hk => (h k hk).of (e k (by rcases hk with hk | ⟨t, c, ht, rfl, hc⟩ <;> omega))
theorem WY.of {W V : Nat → Int32} (h : WY W) (e : ∀ k, k < 788 → V k = W k) : WY V := ⟨h.1.of e, h.2.of e⟩
/-- a world of the law: in order, its last thread, its ticks -/
noncomputable def WZ (W : Nat → Int32) : Prop := WY W ∧ LT W ∧ TK W
theorem WZ.of {W V : Nat → Int32} (h : WZ W) (e : ∀ k, k < 788 → V k = W k) : WZ V := ⟨h.1.of e, LT_eq h.2.1 (e 12 (by omega)), ok.of h.2.2 (e 11 (by omega))⟩
theorem goes1 {mm : Nat → Nat → Int32} {W : Nat → Int32} : q_goesT mm W 1 = (bif zc1 .ne (q_areAllDone W) then (Int32.ofNat 0, W, mm) else bif zc2 .ge (W 11) (Int32.ofNat 99999) then (Int32.ofNat 0, W, mm) else (Int32.ofNat 1, (q_steps mm W (nxn W)).2.1, (q_steps mm W (nxn W)).2.2)) := by
  unfold q_goesT
  rw [l_goesT, l_goesT]
theorem TK.e {W : Nat → Int32} (h : TK W) : zc2 .eq (W 11) (Int32.ofNat 99999) = zc2 .ge (W 11) (Int32.ofNat 99999) := by
  have h2 : nv W 11 ≤ 99999 := h.2.2
  rw [h.1]
  by_cases q : nv W 11 = 99999
  · rw [q]; decide
  · rw [zcge_f (by omega) (by omega) (by omega)]
    refine decide_eq_false (fun e => q ?_)
    have := congrArg Int32.toInt e
    rw [zoN (by omega), zoN (by omega)] at this
    omega
/-- an answer within a bound -/
noncomputable def bnd (n0 : Nat) (D : Int32) : Int32 := bif zc2 .le D (Int32.ofNat n0) then D else -1
theorem zcle {a b : Nat} (ha : a < 2147483648) (hb : b < 2147483648) (h : a ≤ b) : zc2 .le (Int32.ofNat a) (Int32.ofNat b) = true := by
  refine decide_eq_true ?_
  rw [Int32.le_iff_toInt_le, zoN ha, zoN hb]
  omega
theorem zcle_f {a b : Nat} (ha : a < 2147483648) (hb : b < 2147483648) (h : b < a) : zc2 .le (Int32.ofNat a) (Int32.ofNat b) = false := by
  refine decide_eq_false ?_
  rw [Int32.le_iff_toInt_le, zoN ha, zoN hb]
  omega
theorem bnd_m {n0 : Nat} : bnd n0 (-1) = -1 := by
  unfold bnd
  cases zc2 .le (-1) (Int32.ofNat n0) <;> rfl
theorem bnd_i {n0 i : Nat} (h : i ≤ n0) (hn : n0 ≤ 400) : bnd n0 (Int32.ofNat i) = Int32.ofNat i := by
  unfold bnd
  rw [zcle (by omega) (by omega) h]
  rfl
theorem bnd_o {n0 i : Nat} (h : n0 < i) (hn : i ≤ 400) : bnd n0 (Int32.ofNat i) = -1 := by
  unfold bnd
  rw [zcle_f (by omega) (by omega) h]
  rfl
noncomputable def DU (k : Nat) (D : Int32) : Prop := D = -1 ∨ ∃ i, k ≤ i ∧ i ≤ 400 ∧ D = Int32.ofNat i
theorem DU.up {k : Nat} {D : Int32} (h : DU (k + 1) D) : DU k D := by
  rcases h with h | ⟨i, h1, h2, h3⟩
  · exact Or.inl h
  · exact Or.inr ⟨i, by omega, h2, h3⟩
theorem DU.bo {k n0 : Nat} {D : Int32} (h : DU k D) (hk : n0 < k) : bnd n0 D = -1 := by
  rcases h with h | ⟨i, h1, h2, h3⟩
  · rw [h]; exact bnd_m
  · rw [h3]; exact bnd_o (by omega) h2
theorem stepsE_9x {W : Nat → Int32} {mm : Nat → Nat → Int32} {t : Nat} {on : Int32} : (q_stepsE mm W t on).2 9 = W 9 := by
  unfold q_stepsE
  have e : upd (upd W 12 (Int32.ofNat t)) 11 (upd W 12 (Int32.ofNat t) 11 + Int32.ofNat 1) 9 = W 9 := by
    rw [upd_ne _ _ (by omega), upd_ne _ _ (by omega)]
  exact cndi (fun q : Int32 × (Nat → Int32) => q.2 9 = W 9) (cndi (fun q : Int32 × (Nat → Int32) => q.2 9 = W 9) e e) e
theorem steps_9x {W : Nat → Int32} {mm : Nat → Nat → Int32} {t : Nat} (h : KG W t) (ht : t < 4) : (q_steps mm W t).2.1 9 = W 9 := by
  obtain ⟨d24, D1, D2, D3, D4⟩ := h.deed ht
  have d := does_k (mm := zm2 mm 137 5 (Int32.ofNat 0)) (k := 9) (by omega) h ht D3 D4
  have kg := (does_ok (m := zm2 mm 137 5 (Int32.ofNat 0)) (n := nv W (376 + 103 * t + (55 + 2 * nv W (376 + 103 * t + 0) + 1))) h ht (K := nv W (376 + 103 * t + (55 + 2 * nv W (376 + 103 * t + 0)))) (by have := D1.2.2; omega) D3 D4).1
  unfold q_steps
  generalize q_does (zm2 mm 137 5 (Int32.ofNat 0)) W t (nv W (376 + 103 * t + (55 + 2 * nv W (376 + 103 * t + 0)))) (nv W (376 + 103 * t + (55 + 2 * nv W (376 + 103 * t + 0) + 1))) = c at d kg ⊢
  have d' : c.2.1 9 = W 9 := d
  have w := kg.adv ht
  have e1 : upd c.2.1 (376 + 103 * t + 0) (c.2.1 (376 + 103 * t + 0) + Int32.ofNat 1) 9 = W 9 := (upd_ne _ _ (by omega)).trans d'
  refine cndi (fun q : QT => q.2.1 9 = W 9) (stepsE_9x.trans (by rw [d'])) ?_
  generalize upd c.2.1 (376 + 103 * t + 0) (c.2.1 (376 + 103 * t + 0) + Int32.ofNat 1) = V at w e1 ⊢
  unfold q_stepsD
  refine cndi (fun q : QT => q.2.1 9 = W 9) (stepsE_9x.trans (by rw [e1])) (cndi (fun q : QT => q.2.1 9 = W 9) (stepsE_9x.trans ?_) ?_)
  · rw [logs_fr w.C (by omega) (by omega), e1]
  · dsimp only
    rw [stepsE_9x]
    show q_falls V t 2 9 = W 9
    rw [falls_6 w ht (by omega) (by omega), e1]
theorem dueT_lo {t : Nat} : ∀ (n k : Nat) (W : Nat → Int32) (mm : Nat → Nat → Int32), k + n = 401 → DU k (l_dueOf t n k W mm).1 := by
  intro n
  induction n with
  | zero => intro k W mm _; exact Or.inl rfl
  | succ n ih =>
    intro k W mm hk
    unfold l_dueOf
    refine cndi (fun q : Int32 × (Nat → Int32) × (Nat → Nat → Int32) => DU k q.1) (cndi (fun q : Int32 × (Nat → Int32) × (Nat → Nat → Int32) => DU k q.1) (ih _ _ _ (by omega)).up (cndi (fun q : Int32 × (Nat → Int32) × (Nat → Nat → Int32) => DU k q.1) (Or.inl rfl) (cndi (fun q : Int32 × (Nat → Int32) × (Nat → Nat → Int32) => DU k q.1) (ih _ _ _ (by omega)).up (Or.inl rfl)))) (Or.inr ⟨k, by omega, by omega, rfl⟩)
theorem taT_rx {t : Nat} {x : Int32} {n0 : Nat} (hn0 : n0 ≤ 400) : ∀ (n k j : Nat) (m : Nat → Nat → Int32) (W : Nat → Int32) (mm : Nat → Nat → Int32), k + n = n0 → n0 + 1 + j = 401 → RC m 43 W → CG m 43 → WZ W → t < nv W 9 → (xl_taTL t x n0 n k m).1 = bnd n0 (l_dueOf t (n + 1 + j) k W mm).1 := by
  intro n
  induction n with
  | zero =>
    intro k j m W mm hk hj h hc hz ht
    obtain rfl : k = n0 := by omega
    have ed : x_mDoneT m 43 t = q_isDone W t := sdone_eq h hz.1.1.W ht
    have lo : DU (k + 1) (l_dueOf t j (k + 1) W mm).1 := dueT_lo j (k + 1) W mm (by omega)
    have lo2 := dueT_lo (t := t) j (k + 1) (q_goesT mm W 1).2.1 (q_goesT mm W 1).2.2 (by omega)
    rw [show 0 + 1 + j = j + 1 by omega, xl_taTL, l_dueOf, ed]
    cases zc1 .eq (q_isDone W t) with
    | false =>
      simp only [cnF]
      exact (bnd_i (Nat.le_refl _) hn0).symm
    | true =>
      simp only [cnT]
      have g : ∀ q : Int32 × (Nat → Int32) × (Nat → Nat → Int32), DU (k + 1) q.1 → (-1 : Int32) = bnd k q.1 := fun q hq => (hq.bo (by omega)).symm
      exact g _ (cndi (fun q : Int32 × (Nat → Int32) × (Nat → Nat → Int32) => DU (k + 1) q.1) lo (cndi (fun q : Int32 × (Nat → Int32) × (Nat → Nat → Int32) => DU (k + 1) q.1) (Or.inl rfl) (cndi (fun q : Int32 × (Nat → Int32) × (Nat → Nat → Int32) => DU (k + 1) q.1) lo2 (Or.inl rfl))))
  | succ n ih =>
    intro k j m W mm hk hj h hc hz ht
    have ed : x_mDoneT m 43 t = q_isDone W t := sdone_eq h hz.1.1.W ht
    have g7 : m 43 7 = W 11 := h.glob (k := 11) (by omega) (by omega)
    have e : (x_nextByTurn m 43).toNatClampNeg = nxn W := by rw [next_eq h hz.1.1.W]; rfl
    have hge : zc2 .ge (Int32.ofNat k) (Int32.ofNat 400) = false := zcge_f (by omega) (by omega) (by omega)
    have hl : zc2 .lt (W 11) (Int32.ofNat 99999) = !(zc2 .ge (W 11) (Int32.ofNat 99999)) := by rw [zge_n, Bool.not_not]
    rw [show n + 1 + 1 + j = (n + 1 + j) + 1 by omega, xl_taTL, l_dueOf, ed, g7, e, next_eq h hz.1.1.W, all_next hz.1.1.W hz.2.1, hge, goes1, hz.2.2.e, hl]
    cases zc1 .eq (q_isDone W t) with
    | false =>
      simp only [cnF]
      exact (bnd_i (by omega) hn0).symm
    | true =>
      cases hd : zc1 .ne (q_areAllDone W) with
      | true =>
        cases zc2 .ge (W 11) (Int32.ofNat 99999) <;> simp only [cnT, cnF, zne0] <;> exact bnd_m.symm
      | false =>
        cases h9 : zc2 .ge (W 11) (Int32.ofNat 99999) with
        | true => simp only [cnT, cnF, Bool.not_true]; exact bnd_m.symm
        | false =>
          simp only [cnT, cnF, zn1, Bool.not_false]
          obtain ⟨v1, v2⟩ := next_nine hz.1.1.W hz.2.1 hd
          have h4 := hz.1.1.W.N4
          obtain ⟨-, s2, s3, s4⟩ := step_ry (mm := mm) h hz.1 hc v1 v2
          have s9 : nv (q_steps mm W (nxn W)).2.1 9 = nv W 9 := nv_of (steps_9x ⟨hz.1.1.W, v2⟩ (by omega))
          exact ih (k + 1) j _ _ _ (by omega) hj s2 s4 ⟨s3, steps_LT ⟨hz.1.1.W, v2⟩ (by omega), steps_TK ⟨hz.1.1.W, v2⟩ (by omega) hz.2.2 h9⟩ (by rw [s9]; exact ht)
theorem dueX_lo : ∀ (n k : Nat) (W : Nat → Int32) (mm : Nat → Nat → Int32), k + n = 401 → DU k (l_dueOfX n k W mm).1 := by
  intro n
  induction n with
  | zero => intro k W mm _; exact Or.inl rfl
  | succ n ih =>
    intro k W mm hk
    unfold l_dueOfX
    refine cndi (fun q : Int32 × (Nat → Int32) × (Nat → Nat → Int32) => DU k q.1) (cndi (fun q : Int32 × (Nat → Int32) × (Nat → Nat → Int32) => DU k q.1) (ih _ _ _ (by omega)).up (cndi (fun q : Int32 × (Nat → Int32) × (Nat → Nat → Int32) => DU k q.1) (Or.inl rfl) (cndi (fun q : Int32 × (Nat → Int32) × (Nat → Nat → Int32) => DU k q.1) (ih _ _ _ (by omega)).up (Or.inl rfl)))) (Or.inr ⟨k, by omega, by omega, rfl⟩)
theorem taX_rx {x : Int32} {n0 : Nat} (hn0 : n0 ≤ 400) : ∀ (n k j : Nat) (m : Nat → Nat → Int32) (W : Nat → Int32) (mm : Nat → Nat → Int32), k + n = n0 → n0 + 1 + j = 401 → RC m 43 W → CG m 43 → WZ W → (xl_taXL x n0 n k m).1 = bnd n0 (l_dueOfX (n + 1 + j) k W mm).1 := by
  intro n
  induction n with
  | zero =>
    intro k j m W mm hk hj h hc hz
    obtain rfl : k = n0 := by omega
    have ed : zc1 .eq (x_mDoneX m 43) = zc1 .eq (q_areAllDone W) := by
      unfold x_mDoneX
      rw [next_eq h hz.1.1.W, zne2_n, all_next hz.1.1.W hz.2.1, zne_n]
      cases zc1 .eq (q_areAllDone W) <;> rfl
    have lo : DU (k + 1) (l_dueOfX j (k + 1) W mm).1 := dueX_lo j (k + 1) W mm (by omega)
    have lo2 := dueX_lo j (k + 1) (q_goesT mm W 1).2.1 (q_goesT mm W 1).2.2 (by omega)
    rw [show 0 + 1 + j = j + 1 by omega, xl_taXL, l_dueOfX, ed]
    cases zc1 .eq (q_areAllDone W) with
    | false =>
      simp only [cnF]
      exact (bnd_i (Nat.le_refl _) hn0).symm
    | true =>
      simp only [cnT]
      have g : ∀ q : Int32 × (Nat → Int32) × (Nat → Nat → Int32), DU (k + 1) q.1 → (-1 : Int32) = bnd k q.1 := fun q hq => (hq.bo (by omega)).symm
      exact g _ (cndi (fun q : Int32 × (Nat → Int32) × (Nat → Nat → Int32) => DU (k + 1) q.1) lo (cndi (fun q : Int32 × (Nat → Int32) × (Nat → Nat → Int32) => DU (k + 1) q.1) (Or.inl rfl) (cndi (fun q : Int32 × (Nat → Int32) × (Nat → Nat → Int32) => DU (k + 1) q.1) lo2 (Or.inl rfl))))
  | succ n ih =>
    intro k j m W mm hk hj h hc hz
    have ed : zc1 .eq (x_mDoneX m 43) = zc1 .eq (q_areAllDone W) := by
      unfold x_mDoneX
      rw [next_eq h hz.1.1.W, zne2_n, all_next hz.1.1.W hz.2.1, zne_n]
      cases zc1 .eq (q_areAllDone W) <;> rfl
    have g7 : m 43 7 = W 11 := h.glob (k := 11) (by omega) (by omega)
    have e : (x_nextByTurn m 43).toNatClampNeg = nxn W := by rw [next_eq h hz.1.1.W]; rfl
    have hge : zc2 .ge (Int32.ofNat k) (Int32.ofNat 400) = false := zcge_f (by omega) (by omega) (by omega)
    have hl : zc2 .lt (W 11) (Int32.ofNat 99999) = !(zc2 .ge (W 11) (Int32.ofNat 99999)) := by rw [zge_n, Bool.not_not]
    rw [show n + 1 + 1 + j = (n + 1 + j) + 1 by omega, xl_taXL, l_dueOfX, ed, g7, e, next_eq h hz.1.1.W, all_next hz.1.1.W hz.2.1, hge, goes1, hz.2.2.e, hl]
    cases zc1 .eq (q_areAllDone W) with
    | false =>
      simp only [cnF]
      exact (bnd_i (by omega) hn0).symm
    | true =>
      cases hd : zc1 .ne (q_areAllDone W) with
      | true =>
        cases zc2 .ge (W 11) (Int32.ofNat 99999) <;> simp only [cnT, cnF, zne0] <;> exact bnd_m.symm
      | false =>
        cases h9 : zc2 .ge (W 11) (Int32.ofNat 99999) with
        | true => simp only [cnT, cnF, Bool.not_true]; exact bnd_m.symm
        | false =>
          simp only [cnT, cnF, zn1, Bool.not_false]
          obtain ⟨v1, v2⟩ := next_nine hz.1.1.W hz.2.1 hd
          have h4 := hz.1.1.W.N4
          obtain ⟨-, s2, s3, s4⟩ := step_ry (mm := mm) h hz.1 hc v1 v2
          have s9 : nv (q_steps mm W (nxn W)).2.1 9 = nv W 9 := nv_of (steps_9x ⟨hz.1.1.W, v2⟩ (by omega))
          exact ih (k + 1) j _ _ _ (by omega) hj s2 s4 ⟨s3, steps_LT ⟨hz.1.1.W, v2⟩ (by omega), steps_TK ⟨hz.1.1.W, v2⟩ (by omega) hz.2.2 h9⟩ 
end
section
/-! names read alike -/
/-- the letters from sm to p are these -/
noncomputable def mtc (T : Nat → Int32) : List Int32 → Nat → Nat → Bool
  | [], sm, p => decide (sm = p)
  | c :: w, sm, p => decide (sm < p) && decide (T sm = c) && mtc T w (sm + 1) p
noncomputable def nmF (T : Nat → Int32) (p b : Nat) : List Int32 → Nat → Nat → Int32 → Int32
  | [], nm, sm, df => bif zc1 .ne df then -1 else bif zc2 .ne (Int32.ofNat sm) (Int32.ofNat p) then -1 else Int32.ofNat nm
  | c :: r, nm, sm, df => bif zc2 .ne c (Int32.ofNat 32) then (bif zc2 .ge (Int32.ofNat sm) (Int32.ofNat p) then nmF T p b r nm sm (Int32.ofNat 1) else bif zc2 .ne (T sm) c then nmF T p b r nm sm (Int32.ofNat 1) else nmF T p b r nm (sm + 1) df) else (bif zc1 .ne df then nmF T p b r (nm + 1) b (Int32.ofNat 0) else bif zc2 .ne (Int32.ofNat sm) (Int32.ofNat p) then nmF T p b r (nm + 1) b (Int32.ofNat 0) else Int32.ofNat nm)
theorem zceq_n {a b : Nat} (ha : a < 2147483648) (hb : b < 2147483648) : zc2 .eq (Int32.ofNat a) (Int32.ofNat b) = decide (a = b) := by
  by_cases q : a = b
  · subst q; rw [decide_eq_true rfl]; exact decide_eq_true rfl
  · rw [decide_eq_false q]
    refine decide_eq_false (fun e => q ?_)
    have := congrArg Int32.toInt e
    rw [zoN (by omega), zoN (by omega)] at this
    omega
theorem nmF_eq {T : Nat → Int32} {p b s : Nat} (hl : (zby s).length < 100000) : ∀ (n : Nat) (nm sm : Nat) (df : Int32) (k : Nat), k + n = (zby s).length + 1 → 1 ≤ n → yl_name T p b s n nm sm df k = nmF T p b ((zby s).drop k) nm sm df := by
  intro n
  induction n with
  | zero => intro nm sm df k _ h; omega
  | succ n ih =>
    intro nm sm df k hk _
    rw [yl_name, zceq_n (by omega) (by omega)]
    by_cases q : k = (zby s).length
    · rw [decide_eq_true q, List.drop_eq_nil_of_le (by omega)]
      obtain rfl : n = 0 := by omega
      rw [cnT, nmF]
      rfl
    · have hk2 : k < (zby s).length := by omega
      have hg : (zby s).getD k 0 = (zby s)[k] := by rw [List.getD_eq_getElem?_getD, List.getElem?_eq_getElem hk2]; rfl
      rw [decide_eq_false q, cnF, List.drop_eq_getElem_cons hk2, nmF, hg, ih _ _ _ _ (by omega) (by omega), ih _ _ _ _ (by omega) (by omega), ih _ _ _ _ (by omega) (by omega)]
theorem nmF_1 {T : Nat → Int32} {p b : Nat} {r : List Int32} : ∀ (w : List Int32) (nm sm : Nat), (∀ c, c ∈ w → c ≠ Int32.ofNat 32) → nmF T p b (w ++ r) nm sm (Int32.ofNat 1) = nmF T p b r nm (if p ≤ sm then sm else sm) (Int32.ofNat 1) ∨ ∃ sm', nmF T p b (w ++ r) nm sm (Int32.ofNat 1) = nmF T p b r nm sm' (Int32.ofNat 1) := by
  intro w
  induction w with
  | nil => intro nm sm _; exact Or.inr ⟨sm, rfl⟩
  | cons c w ih =>
    intro nm sm hw
    have hc : zc2 .ne c (Int32.ofNat 32) = true := by
      rw [zne2_n]
      have : zc2 .eq c (Int32.ofNat 32) = false := decide_eq_false (hw c (List.mem_cons_self ..))
      rw [this]; rfl
    have hw2 : ∀ c, c ∈ w → c ≠ Int32.ofNat 32 := fun c h => hw c (List.mem_cons_of_mem _ h)
    rw [List.cons_append, nmF, hc, cnT]
    have g : ∀ sm, ∃ sm', nmF T p b (w ++ r) nm sm (Int32.ofNat 1) = nmF T p b r nm sm' (Int32.ofNat 1) := fun sm => by
      rcases ih nm sm hw2 with h | h
      · exact ⟨_, h⟩
      · exact h
    refine Or.inr ?_
    exact cndi (fun q : Int32 => ∃ sm', q = nmF T p b r nm sm' (Int32.ofNat 1)) (g _) (cndi (fun q : Int32 => ∃ sm', q = nmF T p b r nm sm' (Int32.ofNat 1)) (g _) (g _))
/-- a name and what follows it -/
noncomputable def nmE (T : Nat → Int32) (p b : Nat) (r : List Int32) (nm : Nat) : Int32 := match r with
  | [] => -1
  | _ :: r => nmF T p b r (nm + 1) b (Int32.ofNat 0)
noncomputable def tlk (r : List Int32) : Prop := r = [] ∨ ∃ x, r = Int32.ofNat 32 :: x
theorem nmF_b {T : Nat → Int32} {p b nm sm : Nat} {r : List Int32} (hr : tlk r) : nmF T p b r nm sm (Int32.ofNat 1) = nmE T p b r nm := by
  rcases hr with rfl | ⟨x, rfl⟩
  · rw [nmF, zn1, cnT]; rfl
  · have h : zc2 .ne (Int32.ofNat 32) (Int32.ofNat 32) = false := by decide
    rw [nmF, h, cnF, zn1, cnT]; rfl
theorem nmF_g {T : Nat → Int32} {p b nm sm : Nat} {r : List Int32} (hr : tlk r) (h1 : sm < 100000) (h2 : p < 100000) : nmF T p b r nm sm (Int32.ofNat 0) = (bif decide (sm = p) then Int32.ofNat nm else nmE T p b r nm) := by
  have e : zc2 .ne (Int32.ofNat sm) (Int32.ofNat p) = !decide (sm = p) := by rw [zne2_n, zceq_n (by omega) (by omega)]
  rcases hr with rfl | ⟨x, rfl⟩
  · rw [nmF, zne0, cnF, e]
    cases decide (sm = p) <;> rfl
  · have h : zc2 .ne (Int32.ofNat 32) (Int32.ofNat 32) = false := by decide
    rw [nmF, h, cnF, zne0, cnF, e]
    cases decide (sm = p) <;> rfl
theorem nmF_w {T : Nat → Int32} {p b : Nat} {r : List Int32} (hr : tlk r) (hp : p < 100000) : ∀ (w : List Int32) (nm sm : Nat), (∀ c, c ∈ w → c ≠ Int32.ofNat 32) → sm ≤ p → nmF T p b (w ++ r) nm sm (Int32.ofNat 0) = (bif mtc T w sm p then Int32.ofNat nm else nmE T p b r nm) := by
  intro w
  induction w with
  | nil =>
    intro nm sm _ hs
    rw [List.nil_append, nmF_g hr (by omega) hp]
    rfl
  | cons c w ih =>
    intro nm sm hw hs
    have hc : zc2 .ne c (Int32.ofNat 32) = true := by
      rw [zne2_n]
      have : zc2 .eq c (Int32.ofNat 32) = false := decide_eq_false (hw c (List.mem_cons_self ..))
      rw [this]; rfl
    have hw2 : ∀ c, c ∈ w → c ≠ Int32.ofNat 32 := fun c h => hw c (List.mem_cons_of_mem _ h)
    have g1 : nmF T p b (w ++ r) nm sm (Int32.ofNat 1) = nmE T p b r nm := by
      rcases nmF_1 (T := T) (p := p) (b := b) (r := r) w nm sm hw2 with h | ⟨s, h⟩
      · rw [h, nmF_b hr]
      · rw [h, nmF_b hr]
    rw [List.cons_append, nmF, hc, cnT, g1, mtc]
    by_cases q : p ≤ sm
    · rw [zcge (by omega) (by omega) q, cnT, decide_eq_false (show ¬ sm < p by omega)]
      rfl
    · rw [zcge_f (by omega) (by omega) (by omega), cnF, decide_eq_true (show sm < p by omega), zne2_n, ih nm (sm + 1) hw2 (by omega)]
      have e : zc2 .eq (T sm) c = decide (T sm = c) := rfl
      rw [e]
      cases decide (T sm = c) <;> rfl
theorem mtc_len {T : Nat → Int32} : ∀ (w : List Int32) (sm p : Nat), mtc T w sm p = true → sm + w.length = p := by
  intro w
  induction w with
  | nil => intro sm p h; exact of_decide_eq_true h
  | cons c w ih =>
    intro sm p h
    rw [mtc, Bool.and_eq_true] at h
    have := ih _ _ h.2
    rw [List.length_cons]
    omega
theorem isWordL_eq {T : Nat → Int32} {mm : Nat → Nat → Int32} {b p s : Nat} (hT : ∀ q, b ≤ q → q < p → mm 141 q = T q) (hl : b + (zby s).length = p) : ∀ (n k : Nat), k + n = (zby s).length → l_isWord mm b s n (Int32.ofNat 1) k = (bif mtc T ((zby s).drop k) (b + k) p then Int32.ofNat 1 else Int32.ofNat 0) := by
  intro n
  induction n with
  | zero =>
    intro k hk
    rw [List.drop_eq_nil_of_le (by omega), mtc, decide_eq_true (show b + k = p by omega), cnT, l_isWord, zeq1', cnF]
  | succ n ih =>
    intro k hk
    have hk2 : k < (zby s).length := by omega
    have hg : (zby s).getD k 0 = (zby s)[k] := by rw [List.getD_eq_getElem?_getD, List.getElem?_eq_getElem hk2]; rfl
    have z0 : ∀ n k, l_isWord mm b s n (Int32.ofNat 0) k = Int32.ofNat 0 := fun n k => by cases n <;> rfl
    rw [l_isWord, zeq1', cnF, z0, ih _ (by omega), hg, hT _ (by omega) (by omega), List.drop_eq_getElem_cons hk2, mtc, decide_eq_true (show b + k < p by omega), zne2_n]
    have e : zc2 .eq (T (b + k)) (zby s)[k] = decide (T (b + k) = (zby s)[k]) := rfl
    rw [e, show b + (k + 1) = b + k + 1 by omega]
    cases decide (T (b + k) = (zby s)[k]) <;> rfl
theorem isWord_eq {T : Nat → Int32} {mm : Nat → Nat → Int32} {b p s : Nat} (hT : ∀ q, b ≤ q → q < p → mm 141 q = T q) (hbp : b ≤ p) (hp : p ≤ 400) (hl : (zby s).length < 100000) : q_isWord mm p b s = (bif mtc T (zby s) b p then Int32.ofNat 1 else Int32.ofNat 0) := by
  unfold q_isWord
  rw [zne2_n, zceq_n (by omega) (by omega)]
  by_cases q : p - b = (zby s).length
  · rw [decide_eq_true q]
    have h := isWordL_eq (s := s) hT (by omega) (zby s).length 0 (by omega)
    rw [List.drop_zero, Nat.add_zero] at h
    exact h
  · rw [decide_eq_false q]
    have : mtc T (zby s) b p = false := by
      cases h : mtc T (zby s) b p with
      | false => rfl
      | true => have := mtc_len _ _ _ h; omega
    rw [this]
    rfl
end
section
/-! blanks, letters, signs, numbers read alike -/
/-- the two tapes are alike -/
noncomputable def PA (T : Nat → Int32) (e : Nat) (mm : Nat → Nat → Int32) : Prop := pe mm = e ∧ e ≤ 400 ∧ ∀ p, p < e → mm 141 p = T p
theorem zlg_ne (x y : Int32) : (bif zc2 .lt x y then Int32.ofNat 0 else bif zc2 .gt x y then Int32.ofNat 0 else Int32.ofNat 1) = (bif zc2 .ne x y then Int32.ofNat 0 else Int32.ofNat 1) := by
  have e1 : zc2 .lt x y = decide (x < y) := rfl
  have e2 : zc2 .gt x y = decide (y < x) := rfl
  rw [zne2_n]
  have e3 : zc2 .eq x y = decide (x = y) := rfl
  rw [e1, e2, e3]
  by_cases q : x = y
  · subst q
    have h : ¬ x < x := by rw [Int32.lt_iff_toInt_lt]; omega
    rw [decide_eq_false h, decide_eq_true rfl]; rfl
  · rw [decide_eq_false q]
    have hn : x.toInt ≠ y.toInt := fun h => q (Int32.toInt_inj.mp h)
    by_cases q2 : x < y
    · rw [decide_eq_true q2]; rfl
    · have q3 : y < x := by rw [Int32.lt_iff_toInt_lt] at q2 ⊢; omega
      rw [decide_eq_false q2, decide_eq_true q3]; rfl
section ZPA
variable {T : Nat → Int32} {e : Nat} {mm : Nat → Nat → Int32}
theorem isAt_eq {p : Nat} {lo hi : Int32} (h : PA T e mm) (hp : p ≤ 400) : q_isAt mm p lo hi = (bif zc2 .ge (Int32.ofNat p) (Int32.ofNat e) then Int32.ofNat 0 else bif zc2 .lt (T p) lo then Int32.ofNat 0 else bif zc2 .gt (T p) hi then Int32.ofNat 0 else Int32.ofNat 1) := by
  have h2 := h.2.1
  unfold q_isAt
  rw [h.1]
  by_cases q : e ≤ p
  · rw [zcge (by omega) (by omega) q, cnT, cnT]
  · rw [h.2.2 p (by omega)]
theorem isAt_one {p : Nat} {c : Int32} (h : PA T e mm) (hp : p ≤ 400) : q_isAt mm p c c = (bif zc2 .ge (Int32.ofNat p) (Int32.ofNat e) then Int32.ofNat 0 else bif zc2 .ne (T p) c then Int32.ofNat 0 else Int32.ofNat 1) := by
  rw [isAt_eq h hp, zlg_ne]
theorem look_eq (h : PA T e mm) : ∀ (n p : Nat), p + n ≤ 400 → yl_look T e n p = l_blanks mm n p := by
  intro n
  induction n with
  | zero => intro p _; rfl
  | succ n ih =>
    intro p hp
    rw [yl_look, l_blanks, isAt_one h (by omega), ih _ (by omega)]
    cases zc2 .ge (Int32.ofNat p) (Int32.ofNat e) with
    | true => rfl
    | false => cases zc2 .ne (T p) (Int32.ofNat 32) <;> rfl
theorem lk_eq {p : Nat} (h : PA T e mm) (hp : p ≤ e) : lkB T e p = skB mm p := by
  have h2 := h.2.1
  unfold lkB skB
  rw [look_eq h _ _ (by omega), h.1]
theorem sign_eq {p c : Nat} (h : PA T e mm) (hp : p ≤ e) : q_passesSign mm p c = ((y_skipSign T e (lkB T e p) c).1, (y_skipSign T e (lkB T e p) c).2, lkB T e p) := by
  have h2 := h.2.1
  have h3 := lkB_le (T := T) h2 hp
  unfold q_passesSign y_skipSign
  rw [← lk_eq h hp, isAt_one h (by omega)]
  cases zc2 .ge (Int32.ofNat (lkB T e p)) (Int32.ofNat e) with
  | true => rfl
  | false => cases zc2 .ne (T (lkB T e p)) (Int32.ofNat c) <;> rfl
theorem nameA_eq {b s : Nat} (h : PA T e mm) : ∀ (n p : Nat), p + n ≤ 400 → yl_nameA T e b s n p = (yl_name T (l_letters mm n p) b s ((zby s).length + 1) 0 b (Int32.ofNat 0) 0, l_letters mm n p) := by
  intro n
  induction n with
  | zero => intro p _; rfl
  | succ n ih =>
    intro p hp
    rw [yl_nameA, l_letters, isAt_eq h (by omega), ih _ (by omega)]
    cases zc2 .ge (Int32.ofNat p) (Int32.ofNat e) with
    | true => rfl
    | false =>
      cases zc2 .lt (T p) (Int32.ofNat 97) with
      | true => rfl
      | false => cases zc2 .gt (T p) (Int32.ofNat 122) <;> rfl
theorem name_eq {p s : Nat} (h : PA T e mm) (hp : p ≤ e) (hl : (zby s).length < 100000) : y_readName T e p s = (nmF T (q_letters mm p).1 (q_letters mm p).2 (zby s) 0 (q_letters mm p).2 (Int32.ofNat 0), (q_letters mm p).1, (q_letters mm p).2) := by
  have h2 := h.2.1
  have h3 := lkB_le (T := T) h2 hp
  unfold y_readName q_letters
  rw [nameA_eq h _ _ (by omega), nmF_eq hl _ _ _ _ _ (by omega) (by omega), lk_eq h hp, h.1, List.drop_zero]
theorem dig_eq (v x : Int32) : Int32.ofNat 10 * v + x - Int32.ofNat 48 = v * Int32.ofNat 10 + (x - Int32.ofNat 48) := by
  rw [Int32.sub_eq_add_neg, Int32.sub_eq_add_neg, Int32.add_assoc, Int32.mul_comm]
theorem num_end {b p : Nat} {v lo hi : Int32} (hb : b ≤ p) (hp : p ≤ 400) : (bif zc2 .lt (Int32.ofNat (p - b)) (Int32.ofNat 1) then ((-1 : Int32), p) else bif zc2 .gt (Int32.ofNat (p - b)) (Int32.ofNat 4) then (-1, p) else bif zc2 .lt v lo then (-1, p) else bif zc2 .gt v hi then (-1, p) else (v, p)) = (bif zc2 .eq (Int32.ofNat p) (Int32.ofNat b) then (-1, p) else bif zc2 .gt (Int32.ofNat (p - b)) (Int32.ofNat 4) then (-1, p) else bif zc2 .lt v lo then (-1, p) else bif zc2 .le v hi then (v, p) else (-1, p)) := by
  have e1 : zc2 .lt (Int32.ofNat (p - b)) (Int32.ofNat 1) = zc2 .eq (Int32.ofNat p) (Int32.ofNat b) := by
    rw [zceq_n (by omega) (by omega)]
    by_cases q : p = b
    · rw [zclt (by omega) (by omega) (by omega), decide_eq_true q]
    · rw [zclt_f (by omega) (by omega) (by omega), decide_eq_false q]
  have e2 : zc2 .gt v hi = !(zc2 .le v hi) := by
    have a1 : zc2 .gt v hi = decide (hi < v) := rfl
    have a2 : zc2 .le v hi = decide (v ≤ hi) := rfl
    rw [a1, a2, ← decide_not]
    refine decide_eq_decide.mpr ?_
    rw [Int32.lt_iff_toInt_lt, Int32.le_iff_toInt_le]
    omega
  rw [e1, e2]
  cases zc2 .le v hi <;> rfl
theorem numL_eq {b : Nat} {lo hi : Int32} (h : PA T e mm) : ∀ (n : Nat) (v : Int32) (p : Nat), p + n ≤ 400 → b ≤ p → yl_num T e b lo hi n v p = l_number mm b lo hi n v p := by
  intro n
  induction n with
  | zero => intro v p hp hb; exact num_end hb (by omega)
  | succ n ih =>
    intro v p hp hb
    rw [yl_num, l_number, isAt_eq h (by omega), ih _ _ (by omega) (by omega), ih _ _ (by omega) (by omega), num_end hb (by omega)]
    by_cases q : e ≤ p
    · rw [zcge (by omega) (by have := h.2.1; omega) q]; rfl
    · rw [zcge_f (by omega) (by have := h.2.1; omega) (by omega), h.2.2 p (by omega), dig_eq]
      cases zc2 .lt (T p) (Int32.ofNat 48) with
      | true => rfl
      | false => cases zc2 .gt (T p) (Int32.ofNat 57) <;> rfl
theorem number_eq {p : Nat} {lo hi : Int32} (h : PA T e mm) (hp : p ≤ e) : y_readNumber T e p lo hi = q_number mm p lo hi := by
  have h2 := h.2.1
  have h3 := lkB_le (T := T) h2 hp
  unfold y_readNumber q_number
  rw [numL_eq h _ _ _ (by omega) (Nat.le_refl _), lk_eq h hp, h.1]
end ZPA
end
section
/-! which name comes next: alike -/
noncomputable def spl : List (List Int32) → List Int32
  | [] => []
  | [w] => w
  | w :: v :: vs => w ++ Int32.ofNat 32 :: spl (v :: vs)
noncomputable def nmL (T : Nat → Int32) (p b : Nat) : List (List Int32) → Nat → Int32
  | [], _ => -1
  | w :: ws, nm => bif mtc T w b p then Int32.ofNat nm else nmL T p b ws (nm + 1)
noncomputable def nbl (ws : List (List Int32)) : Bool := ws.all (fun w => w.all (fun c => !(c == Int32.ofNat 32)))
theorem nbl_w {ws : List (List Int32)} (h : nbl ws = true) {w : List Int32} (hw : w ∈ ws) : ∀ c, c ∈ w → c ≠ Int32.ofNat 32 := by
  intro c hc e
  have h1 := List.all_eq_true.mp (List.all_eq_true.mp h w hw) c hc
  rw [e] at h1
  exact absurd h1 (by decide)
theorem nmF_spl {T : Nat → Int32} {p b : Nat} (hp : p < 100000) (hb : b ≤ p) : ∀ (ws : List (List Int32)) (nm : Nat), (∀ w, w ∈ ws → ∀ c, c ∈ w → c ≠ Int32.ofNat 32) → ws ≠ [] → nmF T p b (spl ws) nm b (Int32.ofNat 0) = nmL T p b ws nm := by
  intro ws
  induction ws with
  | nil => intro nm _ h; exact absurd rfl h
  | cons w ws ih =>
    intro nm hw _
    have hw1 := hw w (List.mem_cons_self ..)
    cases ws with
    | nil =>
      have q := nmF_w (T := T) (b := b) (r := []) (Or.inl rfl) hp w nm b hw1 hb
      rw [List.append_nil] at q
      exact q
    | cons v vs =>
      have q := nmF_w (T := T) (b := b) (r := Int32.ofNat 32 :: spl (v :: vs)) (Or.inr ⟨_, rfl⟩) hp w nm b hw1 hb
      have q2 := ih (nm + 1) (fun u hu => hw u (List.mem_cons_of_mem _ hu)) (by simp)
      have q3 : nmE T p b (Int32.ofNat 32 :: spl (v :: vs)) nm = nmL T p b (v :: vs) (nm + 1) := q2
      rw [q3] at q
      exact q
theorem mtc_uniq {T : Nat → Int32} : ∀ (w v : List Int32) (sm p : Nat), mtc T w sm p = true → mtc T v sm p = true → w = v := by
  intro w
  induction w with
  | nil =>
    intro v sm p h1 h2
    cases v with
    | nil => rfl
    | cons d v =>
      have a := of_decide_eq_true (show decide (sm = p) = true from h1)
      rw [mtc, Bool.and_eq_true, Bool.and_eq_true] at h2
      have c := of_decide_eq_true h2.1.1
      omega
  | cons c w ih =>
    intro v sm p h1 h2
    rw [mtc, Bool.and_eq_true, Bool.and_eq_true] at h1
    have a := of_decide_eq_true h1.1.1
    cases v with
    | nil =>
      have c := of_decide_eq_true (show decide (sm = p) = true from h2)
      omega
    | cons d v =>
      rw [mtc, Bool.and_eq_true, Bool.and_eq_true] at h2
      have e1 := of_decide_eq_true h1.1.2
      have e2 := of_decide_eq_true h2.1.2
      rw [ih v _ _ h1.2 h2.2, ← e1, ← e2]
theorem nmL_c {T : Nat → Int32} {p b : Nat} : ∀ (ws : List (List Int32)) (nm : Nat), (nmL T p b ws nm = -1 ∧ ∀ w, w ∈ ws → mtc T w b p = false) ∨ ∃ i w, ws[i]? = some w ∧ nmL T p b ws nm = Int32.ofNat (nm + i) ∧ mtc T w b p = true := by
  intro ws
  induction ws with
  | nil => intro nm; exact Or.inl ⟨rfl, fun w hw => absurd hw (List.not_mem_nil)⟩
  | cons w ws ih =>
    intro nm
    cases hm : mtc T w b p with
    | true =>
      refine Or.inr ⟨0, w, rfl, ?_, hm⟩
      rw [nmL, hm]
      rfl
    | false =>
      rcases ih (nm + 1) with ⟨a, c⟩ | ⟨i, v, a, c, d⟩
      · refine Or.inl ⟨?_, fun u hu => ?_⟩
        · rw [nmL, hm, cnF]; exact a
        · rcases List.mem_cons.mp hu with rfl | hu
          · exact hm
          · exact c u hu
      · refine Or.inr ⟨i + 1, v, a, ?_, d⟩
        rw [nmL, hm, cnF, c, show nm + (i + 1) = nm + 1 + i by omega]
noncomputable def ln0 : List Nat := [25, 14, 15, 16, 17, 18, 19, 20, 24, 22, 26, 27, 23, 21]
noncomputable def ln2 : List Nat := [5, 6, 7, 8, 9, 10, 11, 12]
theorem zby_0 : zby 0 = spl (ln0.map zby) := by decide +kernel
theorem zby_2 : zby 2 = spl (ln2.map zby) := by decide +kernel
theorem zby_1 : zby 1 = spl [zby 13] := by decide +kernel
theorem nbl_0 : nbl (ln0.map zby) = true := by decide +kernel
theorem nbl_2 : nbl (ln2.map zby) = true := by decide +kernel
theorem nbl_1 : nbl [zby 13] = true := by decide +kernel
theorem zby_l : (List.range 28).all (fun s => (List.range 28).all (fun u => Nat.blt s 5 || Nat.blt u 5 || Nat.beq s 13 || Nat.beq u 13 || !(zby s == zby u) || Nat.beq s u)) = true := by decide +kernel
theorem zby_i (s : Nat) (hs : s < 28) (u : Nat) (hu : u < 28) (h5 : 5 ≤ s) (k5 : 5 ≤ u) (h13 : s ≠ 13) (k13 : u ≠ 13) (e : zby s = zby u) : s = u := by
  have a := List.all_eq_true.mp (List.all_eq_true.mp zby_l s (List.mem_range.mpr hs)) u (List.mem_range.mpr hu)
  rw [Bool.or_eq_true, Bool.or_eq_true, Bool.or_eq_true, Bool.or_eq_true, Bool.or_eq_true] at a
  rcases a with ((((a | a) | a) | a) | a) | a
  · have : s < 5 := Nat.le_of_ble_eq_true a
    omega
  · have : u < 5 := Nat.le_of_ble_eq_true a
    omega
  · exact absurd (Nat.eq_of_beq_eq_true a) h13
  · exact absurd (Nat.eq_of_beq_eq_true a) k13
  · rw [e, beq_self_eq_true] at a
    exact absurd a (by decide)
  · exact Nat.eq_of_beq_eq_true a
theorem ln0_in : ∀ s, s < 28 → 14 ≤ s → s ∈ ln0 := by decide
theorem ln2_in : ∀ s, s < 13 → 5 ≤ s → s ∈ ln2 := by decide
theorem ln0_b : ∀ s, s ∈ ln0 → 14 ≤ s ∧ s < 28 := by decide
theorem ln2_b : ∀ s, s ∈ ln2 → 5 ≤ s ∧ s < 13 := by decide
theorem mtc_x {T : Nat → Int32} {p b s u : Nat} (hs : s < 28) (hu : u < 28) (h5 : 5 ≤ s) (k5 : 5 ≤ u) (h13 : s ≠ 13) (k13 : u ≠ 13) (h : mtc T (zby s) b p = true) : mtc T (zby u) b p = decide (u = s) := by
  by_cases e : u = s
  · rw [decide_eq_true e, e]; exact h
  · rw [decide_eq_false e]
    cases hm : mtc T (zby u) b p with
    | false => rfl
    | true => exact absurd (zby_i u hu s hs k5 h5 k13 h13 (mtc_uniq _ _ _ _ hm h)) e
/-- of a line: no name, or one -/
theorem name0 {T : Nat → Int32} {p b : Nat} (hp : p < 100000) (hb : b ≤ p) : (nmF T p b (zby 0) 0 b (Int32.ofNat 0) = -1 ∧ ∀ s, 14 ≤ s → s < 28 → mtc T (zby s) b p = false) ∨ ∃ K s, ln0[K]? = some s ∧ nmF T p b (zby 0) 0 b (Int32.ofNat 0) = Int32.ofNat K ∧ ∀ u, 14 ≤ u → u < 28 → mtc T (zby u) b p = decide (u = s) := by
  rw [zby_0, nmF_spl hp hb _ _ (fun w hw => nbl_w nbl_0 hw) (by decide)]
  rcases nmL_c (T := T) (p := p) (b := b) (ln0.map zby) 0 with ⟨a, c⟩ | ⟨i, w, a, c, d⟩
  · exact Or.inl ⟨a, fun s h1 h2 => c _ (List.mem_map_of_mem (ln0_in s h2 h1))⟩
  · rw [List.getElem?_map] at a
    obtain ⟨s, a1, a2⟩ := Option.map_eq_some_iff.mp a
    have hs := ln0_b s (List.mem_of_getElem? a1)
    rw [Nat.zero_add] at c
    rw [← a2] at d
    exact Or.inr ⟨i, s, a1, c, fun u h1 h2 => mtc_x (by omega) (by omega) (by omega) (by omega) (by omega) (by omega) d⟩
theorem name2 {T : Nat → Int32} {p b : Nat} (hp : p < 100000) (hb : b ≤ p) : (nmF T p b (zby 2) 0 b (Int32.ofNat 0) = -1 ∧ ∀ s, 5 ≤ s → s < 13 → mtc T (zby s) b p = false) ∨ ∃ K s, ln2[K]? = some s ∧ nmF T p b (zby 2) 0 b (Int32.ofNat 0) = Int32.ofNat K ∧ ∀ u, 5 ≤ u → u < 13 → mtc T (zby u) b p = decide (u = s) := by
  rw [zby_2, nmF_spl hp hb _ _ (fun w hw => nbl_w nbl_2 hw) (by decide)]
  rcases nmL_c (T := T) (p := p) (b := b) (ln2.map zby) 0 with ⟨a, c⟩ | ⟨i, w, a, c, d⟩
  · exact Or.inl ⟨a, fun s h1 h2 => c _ (List.mem_map_of_mem (ln2_in s h2 h1))⟩
  · rw [List.getElem?_map] at a
    obtain ⟨s, a1, a2⟩ := Option.map_eq_some_iff.mp a
    have hs := ln2_b s (List.mem_of_getElem? a1)
    rw [Nat.zero_add] at c
    rw [← a2] at d
    exact Or.inr ⟨i, s, a1, c, fun u h1 h2 => mtc_x (by omega) (by omega) (by omega) (by omega) (by omega) (by omega) d⟩
theorem name1 {T : Nat → Int32} {p b : Nat} (hp : p < 100000) (hb : b ≤ p) : nmF T p b (zby 1) 0 b (Int32.ofNat 0) = (bif mtc T (zby 13) b p then Int32.ofNat 0 else -1) := by
  rw [zby_1, nmF_spl hp hb _ _ (fun w hw => nbl_w nbl_1 hw) (by decide)]
  rfl
section ZWN
variable {T : Nat → Int32} {e p b : Nat} {mm : Nat → Nat → Int32} {W : Nat → Int32}
/-- what the reference finds there -/
noncomputable def wsT (mm : Nat → Nat → Int32) (p b s : Nat) : Prop := zc1 .eq (q_isWord mm p b s) = false ∧ zc1 .ne (q_isWord mm p b s) = true
noncomputable def wsF (mm : Nat → Nat → Int32) (p b s : Nat) : Prop := zc1 .eq (q_isWord mm p b s) = true ∧ zc1 .ne (q_isWord mm p b s) = false
theorem ws_of (h : PA T e mm) (hb : b ≤ p) (hp : p ≤ e) {s : Nat} (hs : s < 37) : (mtc T (zby s) b p = true → wsT mm p b s) ∧ (mtc T (zby s) b p = false → wsF mm p b s) := by
  have h2 := h.2.1
  have hl := zby_len s hs
  have q := isWord_eq (T := T) (mm := mm) (b := b) (p := p) (s := s) (fun q _ h2 => h.2.2 q (by omega)) hb (by omega) (by omega)
  refine ⟨fun hm => ?_, fun hm => ?_⟩
  · rw [hm, cnT] at q
    unfold wsT
    rw [q]
    exact ⟨zeq1', zn1⟩
  · rw [hm, cnF] at q
    unfold wsF
    rw [q]
    exact ⟨zeq0, zne0⟩
theorem kind_0 (hn : ∀ s, 5 ≤ s → s < 13 → wsF mm p b s) : q_kindHere mm p b = -1 := by
  unfold q_kindHere
  simp only [(hn 5 (by omega) (by omega)).1, (hn 6 (by omega) (by omega)).1, (hn 7 (by omega) (by omega)).1, (hn 8 (by omega) (by omega)).1, (hn 9 (by omega) (by omega)).1, (hn 10 (by omega) (by omega)).1, (hn 11 (by omega) (by omega)).1, (hn 12 (by omega) (by omega)).1, cnT]
theorem kind_K {K s : Nat} (hK : ln2[K]? = some s) (hT : wsT mm p b s) (hn : ∀ u, 5 ≤ u → u < 13 → u ≠ s → wsF mm p b u) : q_kindHere mm p b = Int32.ofNat K := by
  unfold q_kindHere
  match K, hK with
  | 0, hK => cases hK; simp only [hT.1, cnF]
  | 1, hK => cases hK; simp only [(hn 5 (by omega) (by omega) (by omega)).1, hT.1, cnT, cnF]
  | 2, hK => cases hK; simp only [(hn 5 (by omega) (by omega) (by omega)).1, (hn 6 (by omega) (by omega) (by omega)).1, hT.1, cnT, cnF]
  | 3, hK => cases hK; simp only [(hn 5 (by omega) (by omega) (by omega)).1, (hn 6 (by omega) (by omega) (by omega)).1, (hn 7 (by omega) (by omega) (by omega)).1, hT.1, cnT, cnF]
  | 4, hK => cases hK; simp only [(hn 5 (by omega) (by omega) (by omega)).1, (hn 6 (by omega) (by omega) (by omega)).1, (hn 7 (by omega) (by omega) (by omega)).1, (hn 8 (by omega) (by omega) (by omega)).1, hT.1, cnT, cnF]
  | 5, hK => cases hK; simp only [(hn 5 (by omega) (by omega) (by omega)).1, (hn 6 (by omega) (by omega) (by omega)).1, (hn 7 (by omega) (by omega) (by omega)).1, (hn 8 (by omega) (by omega) (by omega)).1, (hn 9 (by omega) (by omega) (by omega)).1, hT.1, cnT, cnF]
  | 6, hK => cases hK; simp only [(hn 5 (by omega) (by omega) (by omega)).1, (hn 6 (by omega) (by omega) (by omega)).1, (hn 7 (by omega) (by omega) (by omega)).1, (hn 8 (by omega) (by omega) (by omega)).1, (hn 9 (by omega) (by omega) (by omega)).1, (hn 10 (by omega) (by omega) (by omega)).1, hT.1, cnT, cnF]
  | 7, hK => cases hK; simp only [(hn 5 (by omega) (by omega) (by omega)).1, (hn 6 (by omega) (by omega) (by omega)).1, (hn 7 (by omega) (by omega) (by omega)).1, (hn 8 (by omega) (by omega) (by omega)).1, (hn 9 (by omega) (by omega) (by omega)).1, (hn 10 (by omega) (by omega) (by omega)).1, (hn 11 (by omega) (by omega) (by omega)).1, hT.1, cnT, cnF]
  | k + 8, hK => exact absurd hK (by simp [ln2])
theorem term_0 (hn : ∀ s, 14 ≤ s → s < 21 → wsF mm p b s) : q_termHere mm p b = -1 := by
  unfold q_termHere
  simp only [(hn 14 (by omega) (by omega)).1, (hn 15 (by omega) (by omega)).1, (hn 16 (by omega) (by omega)).1, (hn 17 (by omega) (by omega)).1, (hn 18 (by omega) (by omega)).1, (hn 19 (by omega) (by omega)).1, (hn 20 (by omega) (by omega)).1, cnT]
theorem term_K {K : Nat} (h1 : 1 ≤ K) (h7 : K ≤ 7) (hT : wsT mm p b (13 + K)) (hn : ∀ u, 14 ≤ u → u < 21 → u ≠ 13 + K → wsF mm p b u) : q_termHere mm p b = Int32.ofNat K := by
  unfold q_termHere
  match K, h1, h7 with
  | 1, _, _ => simp only [hT.1, cnF]
  | 2, _, _ => simp only [(hn 14 (by omega) (by omega) (by omega)).1, hT.1, cnT, cnF]
  | 3, _, _ => simp only [(hn 14 (by omega) (by omega) (by omega)).1, (hn 15 (by omega) (by omega) (by omega)).1, hT.1, cnT, cnF]
  | 4, _, _ => simp only [(hn 14 (by omega) (by omega) (by omega)).1, (hn 15 (by omega) (by omega) (by omega)).1, (hn 16 (by omega) (by omega) (by omega)).1, hT.1, cnT, cnF]
  | 5, _, _ => simp only [(hn 14 (by omega) (by omega) (by omega)).1, (hn 15 (by omega) (by omega) (by omega)).1, (hn 16 (by omega) (by omega) (by omega)).1, (hn 17 (by omega) (by omega) (by omega)).1, hT.1, cnT, cnF]
  | 6, _, _ => simp only [(hn 14 (by omega) (by omega) (by omega)).1, (hn 15 (by omega) (by omega) (by omega)).1, (hn 16 (by omega) (by omega) (by omega)).1, (hn 17 (by omega) (by omega) (by omega)).1, (hn 18 (by omega) (by omega) (by omega)).1, hT.1, cnT, cnF]
  | 7, _, _ => simp only [(hn 14 (by omega) (by omega) (by omega)).1, (hn 15 (by omega) (by omega) (by omega)).1, (hn 16 (by omega) (by omega) (by omega)).1, (hn 17 (by omega) (by omega) (by omega)).1, (hn 18 (by omega) (by omega) (by omega)).1, (hn 19 (by omega) (by omega) (by omega)).1, hT.1, cnT, cnF]
/-- a line, by its name -/
theorem line_0 (hn : ∀ s, 14 ≤ s → s < 28 → wsF mm p b s) : q_readLine mm W p b = (Int32.ofNat 0, W, p, b) := by
  have ht := term_0 (mm := mm) (p := p) (b := b) (fun s h1 h2 => hn s h1 (by omega))
  unfold q_readLine
  rw [(hn 21 (by omega) (by omega)).1, cnT, (hn 22 (by omega) (by omega)).1, cnT, (hn 23 (by omega) (by omega)).1, cnT, (hn 24 (by omega) (by omega)).1, cnT, (hn 25 (by omega) (by omega)).1, cnT, (hn 26 (by omega) (by omega)).2, cnF, (hn 27 (by omega) (by omega)).1, cnT, ht, show zc2 .eq (-1 : Int32) (-1) = true from by decide, cnT]
theorem line_21 (hT : wsT mm p b 21) : q_readLine mm W p b = q_readThread mm W p b := by
  unfold q_readLine
  rw [hT.1, cnF]
theorem line_22 (hT : wsT mm p b 22) (hn : ∀ u, 14 ≤ u → u < 28 → u ≠ 22 → wsF mm p b u) : q_readLine mm W p b = q_readWordLine mm W p := by
  unfold q_readLine
  rw [(hn 21 (by omega) (by omega) (by omega)).1, cnT, hT.1, cnF]
theorem line_23 (hT : wsT mm p b 23) (hn : ∀ u, 14 ≤ u → u < 28 → u ≠ 23 → wsF mm p b u) : q_readLine mm W p b = q_readLock mm W p := by
  unfold q_readLine
  rw [(hn 21 (by omega) (by omega) (by omega)).1, cnT, (hn 22 (by omega) (by omega) (by omega)).1, cnT, hT.1, cnF]
theorem line_24 (hT : wsT mm p b 24) (hn : ∀ u, 14 ≤ u → u < 28 → u ≠ 24 → wsF mm p b u) : q_readLine mm W p b = q_readTrust mm W p := by
  unfold q_readLine
  rw [(hn 21 (by omega) (by omega) (by omega)).1, cnT, (hn 22 (by omega) (by omega) (by omega)).1, cnT, (hn 23 (by omega) (by omega) (by omega)).1, cnT, hT.1, cnF]
noncomputable def rt1 (X : Int32 × (Nat → Int32) × Nat × Nat) : Int32 × (Nat → Int32) × Nat × Nat := bif zc1 .eq X.1 then (Int32.ofNat 0, X.2.1, X.2.2.1, X.2.2.2) else (Int32.ofNat 1, X.2.1, X.2.2.1, X.2.2.2)
theorem line_25 (hT : wsT mm p b 25) (hn : ∀ u, 14 ≤ u → u < 28 → u ≠ 25 → wsF mm p b u) : q_readLine mm W p b = (bif zc1 .ne (q_threads W) then (Int32.ofNat 0, W, p, b) else rt1 (q_readTo mm W p 0 (Int32.ofNat 1) (Int32.ofNat 8))) := by
  unfold q_readLine rt1
  rw [(hn 21 (by omega) (by omega) (by omega)).1, cnT, (hn 22 (by omega) (by omega) (by omega)).1, cnT, (hn 23 (by omega) (by omega) (by omega)).1, cnT, (hn 24 (by omega) (by omega) (by omega)).1, cnT, hT.1, cnF]
theorem line_26 (hT : wsT mm p b 26) (hn : ∀ u, 14 ≤ u → u < 28 → u ≠ 26 → wsF mm p b u) : q_readLine mm W p b = (Int32.ofNat 1, upd W 8 (Int32.ofNat 1), p, b) := by
  unfold q_readLine
  rw [(hn 21 (by omega) (by omega) (by omega)).1, cnT, (hn 22 (by omega) (by omega) (by omega)).1, cnT, (hn 23 (by omega) (by omega) (by omega)).1, cnT, (hn 24 (by omega) (by omega) (by omega)).1, cnT, (hn 25 (by omega) (by omega) (by omega)).1, cnT, hT.2, cnT, hT.1, cnF]
theorem line_27 (hT : wsT mm p b 27) (hn : ∀ u, 14 ≤ u → u < 28 → u ≠ 27 → wsF mm p b u) : q_readLine mm W p b = (Int32.ofNat 1, upd W 8 (Int32.ofNat 0), p, b) := by
  unfold q_readLine
  rw [(hn 21 (by omega) (by omega) (by omega)).1, cnT, (hn 22 (by omega) (by omega) (by omega)).1, cnT, (hn 23 (by omega) (by omega) (by omega)).1, cnT, (hn 24 (by omega) (by omega) (by omega)).1, cnT, (hn 25 (by omega) (by omega) (by omega)).1, cnT, (hn 26 (by omega) (by omega) (by omega)).2, cnF, hT.1, cnF, (hn 26 (by omega) (by omega) (by omega)).1, cnT]
theorem line_t {K : Nat} (h1 : 1 ≤ K) (h7 : K ≤ 7) (hT : wsT mm p b (13 + K)) (hn : ∀ u, 14 ≤ u → u < 28 → u ≠ 13 + K → wsF mm p b u) : q_readLine mm W p b = rt1 (q_readTo mm W p K (q_leastOf K) (q_mostOf K)) := by
  have ht := term_K h1 h7 hT (fun u a1 a2 a3 => hn u a1 (by omega) a3)
  have hz : zc2 .eq (Int32.ofNat K) (-1) = false := by
    have z : ∀ k, k < 8 → zc2 .eq (Int32.ofNat k) (-1) = false := by decide +kernel
    exact z K (by omega)
  unfold q_readLine rt1
  rw [(hn 21 (by omega) (by omega) (by omega)).1, cnT, (hn 22 (by omega) (by omega) (by omega)).1, cnT, (hn 23 (by omega) (by omega) (by omega)).1, cnT, (hn 24 (by omega) (by omega) (by omega)).1, cnT, (hn 25 (by omega) (by omega) (by omega)).1, cnT, (hn 26 (by omega) (by omega) (by omega)).2, cnF, (hn 27 (by omega) (by omega) (by omega)).1, cnT, ht, hz, cnF, nv_on (by omega)]
end ZWN
end
section
/-! what a text changes: worlds in order, both sides alike -/
noncomputable def trl (k : Nat) : Nat := [1, 1, 1, 1, 0, 0, 0, 1, 0].getD k 0
noncomputable def trh (k : Nat) : Nat := [8, 9, 4, 8, 16, 9, 15, 9, 1].getD k 0
theorem WZ.W {W : Nat → Int32} (h : WZ W) : WG W := h.1.1.W
theorem WZ.gen {W : Nat → Int32} {k : Nat} {x : Int32} (h : WZ W) (hk : k < 376) (hw : WG (upd W k x)) (h5 : k ≠ 5 ∧ k ≠ 6 ∧ k ≠ 8 ∧ ¬ (20 ≤ k ∧ k < 24)) (h11 : k ≠ 11 ∧ k ≠ 12) (hv : 32 ≤ k → k < 64 → vx x) : WZ (upd W k x) :=
  ⟨⟨WX.mk hw (h.1.1.1.2.2.2.of (fun j hj => upd_ne _ _ (by omega))) (h.1.1.2.1.of (upd_ne _ _ (by omega))) (h.1.1.2.2.1.of (upd_ne _ _ (by omega))) (fun t ht => (h.1.1.T ht).of h.W ht (fun c hc _ => upd_ne _ _ (by omega))), h.1.2.put (fun q => by
    rcases q with q | ⟨t, c, ht, q, _⟩
    · exact hv q.1 q.2
    · omega)⟩, LT_eq h.2.1 (upd_ne _ _ (by omega)), ok.of h.2.2 (upd_ne _ _ (by omega))⟩
theorem trh_16 : ∀ k, k < 9 → trh k ≤ 16 := by decide
theorem WZ.term {W : Nat → Int32} {k n : Nat} (h : WZ W) (hk : k ≤ 8) (hl : trl k ≤ n) (hh : n ≤ trh k) : WZ (upd W k (Int32.ofNat n)) := by
  have hn : n ≤ 16 := Nat.le_trans hh (trh_16 k (by omega))
  have o0 : ∀ j lo hi, k = j → trl j = lo → trh j = hi → ok (upd W k (Int32.ofNat n)) k lo hi := fun j lo hi e e1 e2 => by
    subst e; subst e1; subst e2
    exact ok.is (upd_at _ _ _) hl hh (by omega)
  have hw : WG (upd W k (Int32.ofNat n)) := h.W.low (by omega) (fun e => o0 0 1 8 e rfl rfl) (fun e => o0 2 1 4 e rfl rfl) (fun e => o0 7 1 9 e rfl rfl) (fun e => by omega) (by omega) (fun _ _ => by omega)
  have o1 : ∀ j lo hi, ok W j lo hi → trl j = lo → trh j = hi → ok (upd W k (Int32.ofNat n)) j lo hi := fun j lo hi q e1 e2 => by
    by_cases e : k = j
    · subst e
      exact o0 k lo hi rfl e1 e2
    · exact q.of (upd_ne _ _ (fun q => e q.symm))
  exact ⟨⟨WX.mk hw ⟨o1 6 0 15 h.1.1.1.2.2.2.1 rfl rfl, fun l hl => (h.1.1.1.2.2.2.2 l hl).of (upd_ne _ _ (by omega))⟩ (o1 5 0 9 h.1.1.2.1 rfl rfl) (o1 8 0 1 h.1.1.2.2.1 rfl rfl) (fun t ht => (h.1.1.T ht).of h.W ht (fun c hc _ => upd_ne _ _ (by omega))), h.1.2.pg (by omega) (by omega)⟩, LT_eq h.2.1 (upd_ne _ _ (by omega)), ok.of h.2.2 (upd_ne _ _ (by omega))⟩
theorem WZ.trust {W : Nat → Int32} {l n : Nat} (h : WZ W) (hl : l < 4) (hn : n ≤ 15) : WZ (upd W (20 + l) (Int32.ofNat n)) := by
  have hw : WG (upd W (20 + l) (Int32.ofNat n)) := h.W.put _ (fre_lo (by omega) (by omega))
  refine ⟨⟨WX.mk hw ⟨h.1.1.1.2.2.2.1.of (upd_ne _ _ (by omega)), fun j hj => ?_⟩ (h.1.1.2.1.of (upd_ne _ _ (by omega))) (h.1.1.2.2.1.of (upd_ne _ _ (by omega))) (fun t ht => (h.1.1.T ht).of h.W ht (fun c hc _ => upd_ne _ _ (by omega))), h.1.2.pg (by omega) (by omega)⟩, LT_eq h.2.1 (upd_ne _ _ (by omega)), ok.of h.2.2 (upd_ne _ _ (by omega))⟩
  by_cases e : j = l
  · subst e
    exact ok.is (upd_at _ _ _) (by omega) hn (by omega)
  · exact (h.1.1.1.2.2.2.2 j hj).of (upd_ne _ _ (by omega))
theorem WZ.word {W : Nat → Int32} {w : Nat} {x : Int32} (h : WZ W) (hw : w < 32) (hx : vx x) : WZ (upd (upd W (32 + w) x) (64 + w) x) := by
  have h1 : WZ (upd W (32 + w) x) := h.gen (by omega) (h.W.put _ (fre_lo (by omega) (by omega))) (by omega) (by omega) (fun _ _ => hx)
  exact h1.gen (by omega) (h1.W.put _ (fre_lo (by omega) (by omega))) (by omega) (by omega) (fun _ _ => hx)
theorem WZ.lockw {W : Nat → Int32} {l n : Nat} (h : WZ W) (hl : l < 4) (hn : n ≤ 31) : WZ (upd W (16 + l) (Int32.ofNat n)) := h.gen (by omega) (h.W.low (by omega) (by omega) (by omega) (by omega) (by omega) (by omega) (fun _ _ => ok.is (upd_at _ _ _) (by omega) hn (by omega))) (by omega) (by omega) (by omega)
theorem WZ.fresh {W V : Nat → Int32} (h : WZ W) {t : Nat} (ht : t < 4) (e : ∀ c, c < 376 + 103 * t ∨ 376 + 103 * t + 103 ≤ c → c ≠ 9 → V c = W c) (h9 : V 9 = Int32.ofNat (t + 1)) (hz : ∀ c, c < 103 → V (376 + 103 * t + c) = Int32.ofNat 0) : WZ V := by
  have hw := h.W.fresh ht e h9 hz
  refine ⟨⟨WX.mk hw (h.1.1.1.2.2.2.of (fun j hj => e _ (by omega) (by omega))) (h.1.1.2.1.of (e _ (by omega) (by omega))) (h.1.1.2.2.1.of (e _ (by omega) (by omega))) (fun u hu => ?_), fun k hk => ?_⟩, LT_eq h.2.1 (e _ (by omega) (by omega)), ok.of h.2.2 (e _ (by omega) (by omega))⟩
  · by_cases hut : u = t
    · subst hut
      refine ⟨fun _ => ⟨hz 15 (by omega), hz 16 (by omega), hz 17 (by omega)⟩, fun q => ?_, Or.inl (hz 21 (by omega))⟩
      rw [hz 2 (by omega)] at q
      exact absurd q (by decide)
    · exact (h.1.1.T hu).of h.W hu (fun c hc _ => e _ (by omega) (by omega))
  · rcases hk with hk | ⟨u, c, hu, hk, hc⟩
    · exact (h.1.2 k (Or.inl hk)).of (e _ (by omega) (by omega))
    · by_cases hut : u = t
      · subst hut
        exact ok.is ((congrArg V hk).trans (hz c (by omega))) (by omega) (by omega) (by omega)
      · exact (h.1.2 k (Or.inr ⟨u, c, hu, hk, hc⟩)).of (e _ (by omega) (by omega))
/-- one more deed of a thread -/
noncomputable def ndd (W : Nat → Int32) (t L K n : Nat) : Nat → Int32 := upd (upd (upd W (376 + 103 * t + (55 + 2 * L)) (Int32.ofNat K)) (376 + 103 * t + (55 + 2 * L + 1)) (Int32.ofNat n)) (376 + 103 * t + 22) (Int32.ofNat (L + 1))
theorem ndd_ne {W : Nat → Int32} {t L K n k : Nat} (h : k ≠ 376 + 103 * t + 22 ∧ k ≠ 376 + 103 * t + (55 + 2 * L) ∧ k ≠ 376 + 103 * t + (55 + 2 * L + 1)) : ndd W t L K n k = W k := by
  unfold ndd
  rw [upd_ne _ _ (by omega), upd_ne _ _ (by omega), upd_ne _ _ (by omega)]
theorem ndd_22 {W : Nat → Int32} {t L K n : Nat} : ndd W t L K n (376 + 103 * t + 22) = Int32.ofNat (L + 1) := upd_at _ _ _
theorem ndd_K {W : Nat → Int32} {t L K n : Nat} : ndd W t L K n (376 + 103 * t + (55 + 2 * L)) = Int32.ofNat K := by
  unfold ndd
  rw [upd_ne _ _ (by omega), upd_ne _ _ (by omega), upd_at]
theorem ndd_n {W : Nat → Int32} {t L K n : Nat} : ndd W t L K n (376 + 103 * t + (55 + 2 * L + 1)) = Int32.ofNat n := by
  unfold ndd
  rw [upd_ne _ _ (by omega), upd_at]
theorem WZ.dd1 {W : Nat → Int32} {t L K n : Nat} (h : WZ W) (ht : t < 4) (hL : nv W (376 + 103 * t + 22) = L) (hL2 : L < 24) (h21 : W (376 + 103 * t + 21) = Int32.ofNat 0) (hK : K ≤ 7) (hn : n ≤ 999) (h1 : K ≤ 1 → n ≤ 3) (h3 : K ≤ 3 → n ≤ 31) : WZ (ndd W t L K n) := by
  have hD : DG (ndd W t L K n) t L := by
    refine ⟨ok.is ndd_K (by omega) hK (by omega), ok.is ndd_n (by omega) hn (by omega), ?_⟩
    have eK : nv (ndd W t L K n) (376 + 103 * t + (55 + 2 * L)) = K := by unfold nv; rw [ndd_K]; exact nv_on (by omega)
    have en : nv (ndd W t L K n) (376 + 103 * t + (55 + 2 * L + 1)) = n := by unfold nv; rw [ndd_n]; exact nv_on (by omega)
    rw [eK, en]
    exact ⟨h1, h3⟩
  have hw := h.W.deed (V := ndd W t L K n) ht hL hL2 (fun c a1 a2 a3 => ndd_ne ⟨a1, a2, a3⟩) ndd_22 hD
  refine ⟨⟨WX.mk hw (h.1.1.1.2.2.2.of (fun j hj => ndd_ne (by omega))) (h.1.1.2.1.of (ndd_ne (by omega))) (h.1.1.2.2.1.of (ndd_ne (by omega))) (fun u hu => ?_), ?_⟩, LT_eq h.2.1 (ndd_ne (by omega)), ok.of h.2.2 (ndd_ne (by omega))⟩
  · by_cases hut : u = t
    · subst hut
      obtain ⟨a1, a2, a3⟩ := h.1.1.T hu
      refine ⟨?_, ?_, Or.inl ((ndd_ne (by omega)).trans h21)⟩
      · rw [ndd_ne (by omega), ndd_ne (by omega), ndd_ne (by omega), ndd_ne (by omega)]
        exact a1
      · rw [ndd_ne (by omega), nv_of (ndd_ne (by omega))]
        exact a2
    · exact (h.1.1.T hu).of h.W hu (fun c hc _ => ndd_ne (by omega))
  · exact (((h.1.2.pt ht (by omega) (by omega)).pt ht (by omega) (by omega)).pt ht (by omega) (by omega))
/-- a thread that is new, on both sides -/
theorem cm_low : (List.range 136).all (fun k => k == 15 || k == 9 || ((Nat.blt (cm k).1 10 || Nat.ble 38 (cm k).1) && !((cm k).1 == 0 && (cm k).2 == 5))) = true := by decide +kernel
theorem cm_lw {k : Nat} (h : k < 136) (h15 : k ≠ 15) (h9 : k ≠ 9) : ((cm k).1 < 10 ∨ 38 ≤ (cm k).1) ∧ ¬ ((cm k).1 = 0 ∧ (cm k).2 = 5) := by
  have a := List.all_eq_true.mp cm_low k (List.mem_range.mpr h)
  have b1 : (k == 15) = false := beq_eq_false_iff_ne.mpr h15
  have b2 : (k == 9) = false := beq_eq_false_iff_ne.mpr h9
  rw [b1, b2, Bool.false_or, Bool.false_or, Bool.and_eq_true, Bool.or_eq_true] at a
  refine ⟨?_, fun e => ?_⟩
  · rcases a.1 with c | c
    · exact Or.inl (Nat.le_of_ble_eq_true c)
    · exact Or.inr (Nat.le_of_ble_eq_true c)
  · rw [e.1, e.2] at a
    exact absurd a.2 (by decide)
theorem RC.fresh {m M : Nat → Nat → Int32} {b : Nat} {W V : Nat → Int32} {t : Nat} (h : RC m b W) (hw : WG W) (ht : t < 4) (ht9 : nv W 9 = t) (e : ∀ c, c < 376 + 103 * t ∨ 376 + 103 * t + 103 ≤ c → c ≠ 9 → V c = W c) (h9 : V 9 = Int32.ofNat (t + 1)) (hz : ∀ c, c < 103 → V (376 + 103 * t + c) = Int32.ofNat 0) (eM : ∀ i l, i < b + 10 + 7 * t ∨ b + 17 + 7 * t ≤ i → ¬ (i = b ∧ l = 5) → M i l = m i l) (hM9 : M b 5 = Int32.ofNat (t + 1)) (hMz : ∀ c, c < 11 ∨ (15 ≤ c ∧ c ≤ 17) ∨ c = 21 ∨ c = 22 → M (b + (cmT t c).1) (cmT t c).2 = Int32.ofNat 0) : RC M b V := by
  have h60 := hw.C.2
  have e15 : V 15 = W 15 := e 15 (by omega) (by omega)
  have n15 : nv V 15 = nv W 15 := nv_of e15
  have n9 : nv V 9 = t + 1 := by unfold nv; rw [h9]; exact nv_on (by omega)
  have e2 : mv M (b + 40) 2 = mv m (b + 40) 2 := by
    unfold mv
    rw [eM _ _ (by omega) (by omega)]
  obtain ⟨⟨l1, l2⟩, l3⟩ := h
  refine ⟨⟨(eM _ _ (by omega) (by omega)).trans (l1.trans e15.symm), fun a c ha hc => ?_⟩, fun k hk => ?_⟩
  · rw [n15] at ha ⊢
    rw [e2, eM _ _ (by omega) (by omega), l2 a c ha hc]
    exact (e _ (by omega) (by omega)).symm
  · obtain ⟨a1, a2, a3⟩ := hk
    rcases a3 with a3 | ⟨a3, d1, d2, d3, d4, d5⟩
    · by_cases k9 : k = 9
      · subst k9
        rw [h9]
        exact hM9
      · obtain ⟨q1, q2⟩ := cm_lw a3 a2 k9
        rw [eM _ _ (by omega) (by omega), e k (by omega) k9]
        exact l3 k ⟨a1, a2, Or.inl a3⟩
    · rw [n9] at d1
      have ek : k = 376 + 103 * ((k - 376) / 103) + (k - 376) % 103 := by omega
      have hc103 : (k - 376) % 103 < 103 := Nat.mod_lt _ (by omega)
      have hu4 : (k - 376) / 103 < 4 := by omega
      by_cases hut : (k - 376) / 103 = t
      · rw [hut] at d2 d3 d4 d5
        have z10 : nv V (376 + 103 * t + 10) = 0 := by unfold nv; rw [hz 10 (by omega)]; rfl
        have z22 : nv V (376 + 103 * t + 22) = 0 := by unfold nv; rw [hz 22 (by omega)]; rfl
        rw [z10] at d2
        rw [hz 2 (by omega)] at d3
        rw [hz 17 (by omega)] at d4
        rw [z22] at d5
        have c1 : ¬ (11 ≤ (k - 376) % 103 ∧ (k - 376) % 103 ≤ 14) := fun q => absurd (d2 q) (Nat.not_lt_zero _)
        have c2 : ¬ (18 ≤ (k - 376) % 103 ∧ (k - 376) % 103 ≤ 20) := fun q => absurd (d3 q) (by decide)
        have c3 : ¬ (23 ≤ (k - 376) % 103 ∧ (k - 376) % 103 ≤ 54) := fun q => hbit0 (by omega) (d4 q)
        have c4 : ¬ 55 ≤ (k - 376) % 103 := fun q => absurd (d5 q) (Nat.not_lt_zero _)
        rw [ek, hut, hz _ hc103, cm_at ht hc103]
        exact hMz _ (by omega)
      · obtain ⟨j, s, js, ej⟩ := cmT_s hc103
        have hj : j ≤ 6 := by unfold svc at js; omega
        have ec : cm k = (10 + j + 7 * ((k - 376) / 103), s) := by
          rw [← ej, ← cm_at hu4 hc103, ← ek]
        have eV : ∀ c, c < 103 → V (376 + 103 * ((k - 376) / 103) + c) = W (376 + 103 * ((k - 376) / 103) + c) := fun c hc => e _ (by omega) (by omega)
        have q := l3 k ⟨a1, a2, Or.inr ⟨a3, by omega, fun z => by rw [← nv_of (eV 10 (by omega))]; exact d2 z, fun z => by rw [← eV 2 (by omega)]; exact d3 z, fun z => by rw [← eV 17 (by omega)]; exact d4 z, fun z => by rw [← nv_of (eV 22 (by omega))]; exact d5 z⟩⟩
        rw [ec] at q ⊢
        dsimp only at q ⊢
        rw [eM _ _ (by omega) (by omega), q]
        exact (e k (by omega) (by omega)).symm
theorem clearL_z {b t : Nat} : ∀ (n k : Nat) (m : Nat → Nat → Int32), k + n = 5 → (∀ c, c < k → m (b + 13 + 7 * t) c = Int32.ofNat 0) → (∀ c, c < 5 → xl_clear b t n k m (b + 13 + 7 * t) c = Int32.ofNat 0) ∧ ∀ s, s = 0 ∨ s = 5 ∨ s = 6 ∨ s = 7 ∨ s = 9 → xl_clear b t n k m (b + 14 + 7 * t) s = Int32.ofNat 0 := by
  intro n
  induction n with
  | zero =>
    intro k m hk hz
    refine ⟨fun c hc => ?_, fun s hs => ?_⟩
    · rw [xl_clear, close_ne (by omega)]
      exact hz c (by omega)
    · rw [xl_clear]
      unfold x_close
      rcases hs with rfl | rfl | rfl | rfl | rfl
      · rw [zx_nk _ _ (by omega), zx_nk _ _ (by omega), zx_nk _ _ (by omega), zx_nk _ _ (by omega), zx_at]
      · rw [zx_nk _ _ (by omega), zx_nk _ _ (by omega), zx_nk _ _ (by omega), zx_at]
      · rw [zx_nk _ _ (by omega), zx_nk _ _ (by omega), zx_at]
      · rw [zx_nk _ _ (by omega), zx_at]
      · rw [zx_at]
  | succ n ih =>
    intro k m hk hz
    rw [xl_clear]
    refine ih _ _ (by omega) (fun c hc => ?_)
    by_cases e : c = k
    · subst e; exact zx_at _ _ _ _
    · rw [zx_nk _ _ e]; exact hz c (by omega)
theorem clear_z {m : Nat → Nat → Int32} {b t : Nat} : (∀ c, c < 5 → x_clear m b t (b + 13 + 7 * t) c = Int32.ofNat 0) ∧ (∀ s, s = 0 ∨ s = 5 ∨ s = 6 ∨ s = 7 ∨ s = 9 → x_clear m b t (b + 14 + 7 * t) s = Int32.ofNat 0) ∧ ∀ s, 2 ≤ s → s ≤ 7 → x_clear m b t (b + 10 + 7 * t) s = Int32.ofNat 0 := by
  obtain ⟨a1, a2⟩ := clearL_z (b := b) (t := t) 5 0 (zm2 (zm2 (zm2 (zm2 (zm2 (zm2 m (b + 10 + 7 * t) 2 (Int32.ofNat 0)) (b + 10 + 7 * t) 3 (Int32.ofNat 0)) (b + 10 + 7 * t) 4 (Int32.ofNat 0)) (b + 10 + 7 * t) 5 (Int32.ofNat 0)) (b + 10 + 7 * t) 6 (Int32.ofNat 0)) (b + 10 + 7 * t) 7 (Int32.ofNat 0)) rfl (fun c hc => absurd hc (Nat.not_lt_zero _))
  refine ⟨a1, a2, fun s h1 h2 => ?_⟩
  unfold x_clear
  rw [clearL_ne (by omega) (by omega)]
  have hs : s = 2 ∨ s = 3 ∨ s = 4 ∨ s = 5 ∨ s = 6 ∨ s = 7 := by omega
  rcases hs with rfl | rfl | rfl | rfl | rfl | rfl
  · rw [zx_nk _ _ (by omega), zx_nk _ _ (by omega), zx_nk _ _ (by omega), zx_nk _ _ (by omega), zx_nk _ _ (by omega), zx_at]
  · rw [zx_nk _ _ (by omega), zx_nk _ _ (by omega), zx_nk _ _ (by omega), zx_nk _ _ (by omega), zx_at]
  · rw [zx_nk _ _ (by omega), zx_nk _ _ (by omega), zx_nk _ _ (by omega), zx_at]
  · rw [zx_nk _ _ (by omega), zx_nk _ _ (by omega), zx_at]
  · rw [zx_nk _ _ (by omega), zx_at]
  · rw [zx_at]
/-- the class's thread behind a clearing: zeros where the reference has some -/
theorem clear_c {m : Nat → Nat → Int32} {b t c : Nat} (hc : c < 11 ∨ (15 ≤ c ∧ c ≤ 17) ∨ c = 21 ∨ c = 22) : x_clear m b t (b + (cmT t c).1) (cmT t c).2 = Int32.ofNat 0 := by
  obtain ⟨a1, a2, a3⟩ := clear_z (m := m) (b := b) (t := t)
  have k : ∀ o s, cmT t c = (o + 7 * t, s) → x_clear m b t (b + o + 7 * t) s = Int32.ofNat 0 → x_clear m b t (b + (cmT t c).1) (cmT t c).2 = Int32.ofNat 0 := fun o s e q => by
    rw [e]
    dsimp only
    rw [show b + (o + 7 * t) = b + o + 7 * t by omega]
    exact q
  have hs : c = 0 ∨ c = 1 ∨ c = 2 ∨ c = 3 ∨ c = 4 ∨ (5 ≤ c ∧ c < 10) ∨ c = 10 ∨ c = 15 ∨ c = 16 ∨ c = 17 ∨ c = 21 ∨ c = 22 := by omega
  rcases hs with rfl | rfl | rfl | rfl | rfl | hs | rfl | rfl | rfl | rfl | rfl | rfl
  · exact k 10 3 rfl (a3 3 (by omega) (by omega))
  · exact k 10 4 rfl (a3 4 (by omega) (by omega))
  · exact k 14 0 rfl (a2 0 (by omega))
  · exact k 10 5 rfl (a3 5 (by omega) (by omega))
  · exact k 10 6 rfl (a3 6 (by omega) (by omega))
  · obtain ⟨y, rfl⟩ : ∃ y, c = 5 + y := ⟨c - 5, by omega⟩
    exact k 13 y (cmT_5 (by omega)) (a1 y (by omega))
  · exact k 14 5 rfl (a2 5 (by omega))
  · exact k 14 6 rfl (a2 6 (by omega))
  · exact k 14 7 rfl (a2 7 (by omega))
  · exact k 14 9 rfl (a2 9 (by omega))
  · exact k 10 7 rfl (a3 7 (by omega) (by omega))
  · exact k 10 2 rfl (a3 2 (by omega) (by omega))
/-- one more deed, on both sides -/
theorem RC.dd1 {m : Nat → Nat → Int32} {b : Nat} {W : Nat → Int32} {t L K n : Nat} (h : RC m b W) (hC : WC W) (ht : t < 4) (ht9 : t < nv W 9) (hL : W (376 + 103 * t + 22) = Int32.ofNat L) (hL2 : L < 24) : RC (x_addDeed m b t (Int32.ofNat K) (Int32.ofNat n)) b (ndd W t L K n) := by
  obtain ⟨e1, e2⟩ := cmT_d (t := t) hL2
  have e22 : cmT t 22 = (10 + 7 * t, 2) := rfl
  have g22 : m (b + 10 + 7 * t) 2 = W (376 + 103 * t + 22) := h.cellS ht (by omega) (cnd0 ht9 (by omega)) e22
  have gL : mv m (b + 10 + 7 * t) 2 = L := by
    unfold mv
    rw [g22, hL]
    exact nv_on (by omega)
  have nL : nv W (376 + 103 * t + 22) = L := by
    unfold nv
    rw [hL]
    exact nv_on (by omega)
  unfold x_addDeed ndd
  rw [gL, zcge_f (by omega) (by omega) (by omega), cnF]
  have r1 := h.thS (c := 55 + 2 * L) (o := 11) (s := L) (x := Int32.ofNat K) hC ht (by omega) (by omega) e1
  have C1 := WC_of (V := upd W (376 + 103 * t + (55 + 2 * L)) (Int32.ofNat K)) (upd_ne _ _ (by omega)) hC
  have r2 := r1.thS (c := 55 + 2 * L + 1) (o := 12) (s := L) (x := Int32.ofNat n) C1 ht (by omega) (by omega) e2
  have C2 := WC_of (V := upd (upd W (376 + 103 * t + (55 + 2 * L)) (Int32.ofNat K)) (376 + 103 * t + (55 + 2 * L + 1)) (Int32.ofNat n)) (upd_ne _ _ (by omega)) C1
  have q := r2.putG (j := 376 + 103 * t + 22) (x := Int32.ofNat (L + 1)) (by omega) (by omega) (Or.inr (by omega)) C2 (fun k hk hkj => ?_)
  · rw [cm_at ht (by omega), e22] at q
    dsimp only at q
    rw [show b + (10 + 7 * t) = b + 10 + 7 * t by omega] at q
    exact q
  · by_cases k1 : k = 376 + 103 * t + (55 + 2 * L)
    · subst k1
      rw [cm_at ht (by omega), e1]
      dsimp only
      rw [show b + (11 + 7 * t) = b + 11 + 7 * t by omega, zx_ne _ _ _ (by omega), zx_at, upd_ne _ _ (by omega), upd_at]
    · by_cases k2 : k = 376 + 103 * t + (55 + 2 * L + 1)
      · subst k2
        rw [cm_at ht (by omega), e2]
        dsimp only
        rw [show b + (12 + 7 * t) = b + 12 + 7 * t by omega, zx_at, upd_at]
      · refine r2.2 k ?_
        obtain ⟨a1, a2, a3⟩ := hk
        refine ⟨a1, a2, ?_⟩
        rcases a3 with a3 | ⟨a3, d1, d2, d3, d4, d5⟩
        · exact Or.inl a3
        · rw [nv_of (upd_ne _ _ (by omega))] at d1 d2
          rw [upd_ne _ _ (by omega)] at d3 d4
          refine Or.inr ⟨a3, d1, d2, d3, d4, fun z => ?_⟩
          have d6 := d5 z
          by_cases hut : (k - 376) / 103 = t
          · rw [hut] at d6 ⊢
            have u1 : nv (upd (upd (upd W (376 + 103 * t + (55 + 2 * L)) (Int32.ofNat K)) (376 + 103 * t + (55 + 2 * L + 1)) (Int32.ofNat n)) (376 + 103 * t + 22) (Int32.ofNat (L + 1))) (376 + 103 * t + 22) = L + 1 := by
              unfold nv
              rw [upd_at]
              exact nv_on (by omega)
            rw [u1] at d6
            rw [nv_of (upd_ne _ _ (by omega)), nv_of (upd_ne _ _ (by omega)), nL]
            omega
          · rw [nv_of (upd_ne _ _ (by omega))] at d6
            exact d6
theorem cm_t {w : Nat} (hw : w < 32) : cm (64 + w) = (2, w) := by
  unfold cm
  rw [if_neg (by omega), if_neg (by omega), if_neg (by omega), if_neg (by omega), if_neg (by omega), if_neg (by omega), if_neg (by omega), if_neg (by omega), if_neg (by omega), if_neg (by omega), if_pos (by omega), show 64 + w - 64 = w by omega]
theorem cm_3 {k : Nat} (hk : k < 9) : cm k = (3, k) := if_pos hk
end
section
/-! a line read alike -/
noncomputable def TLK (m : Nat → Nat → Int32) (W : Nat → Int32) : Prop := RC m 43 W ∧ WZ W
noncomputable def TLP (X : Int32 × (Nat → Nat → Int32) × Nat × Nat) (Y : Int32 × (Nat → Int32) × Nat × Nat) : Prop := (X.1 = Int32.ofNat 0 ∧ Y.1 = Int32.ofNat 0 ∧ X.2.2.2 = Y.2.2.2) ∨ (X.1 = Int32.ofNat 1 ∧ Y.1 = Int32.ofNat 1 ∧ X.2.2.1 = Y.2.2.1 ∧ TLK X.2.1 Y.2.1)
theorem zla_t : ∀ K, 1 ≤ K → K ≤ 7 → (zla 0).getD K 0 = q_leastOf K ∧ (zla 1).getD K 0 = q_mostOf K ∧ q_leastOf K = Int32.ofNat (trl K) ∧ q_mostOf K = Int32.ofNat (trh K) := by
  intro K h1 h7
  match K, h1, h7 with
  | 1, _, _ => exact ⟨rfl, rfl, rfl, rfl⟩
  | 2, _, _ => exact ⟨rfl, rfl, rfl, rfl⟩
  | 3, _, _ => exact ⟨rfl, rfl, rfl, rfl⟩
  | 4, _, _ => exact ⟨rfl, rfl, rfl, rfl⟩
  | 5, _, _ => exact ⟨rfl, rfl, rfl, rfl⟩
  | 6, _, _ => exact ⟨rfl, rfl, rfl, rfl⟩
  | 7, _, _ => exact ⟨rfl, rfl, rfl, rfl⟩
theorem zn_k : ∀ K, K < 8 → 1 ≤ K → zc1 .ne (Int32.ofNat K) = true := by decide +kernel
theorem zm_k : ∀ K, K < 14 → zc2 .eq (Int32.ofNat K) (-1) = false := by decide +kernel
section ZLN
variable {T : Nat → Int32} {e p b : Nat} {m mm : Nat → Nat → Int32} {W : Nat → Int32}
theorem term_rx1 {K : Nat} (h : PA T e mm) (hp : p ≤ e) (h1 : 1 ≤ K) (h7 : K ≤ 7) (hk : TLK m W) : TLP (y_readTerm T e m p b K) (rt1 (q_readTo mm W p K (q_leastOf K) (q_mostOf K))) := by
  obtain ⟨z1, z2, z3, z4⟩ := zla_t K h1 h7
  have hz := zn_k K (by omega) h1
  have hb := trh_16 K (by omega)
  have hb2 : trl K ≤ 16 := by
    have : ∀ k, k < 9 → trl k ≤ 16 := by decide
    exact this K (by omega)
  unfold y_readTerm q_readTo
  rw [hz, cnT, z1, z2, z3, z4, number_eq h hp]
  have nk := number_k (m := mm) (p := p) (a := trl K) (c := trh K) (by omega) (by omega)
  generalize q_number mm p (Int32.ofNat (trl K)) (Int32.ofNat (trh K)) = N at nk ⊢
  rw [zne2_n]
  cases hn : zc2 .eq N.1 (-1) with
  | true =>
    simp only [Bool.not_true, cnT, cnF, rt1, zeq0]
    exact Or.inl ⟨rfl, rfl, rfl⟩
  | false =>
    obtain ⟨n1, n2, n3⟩ := nk (zeq_f hn)
    simp only [Bool.not_false, cnT, cnF, rt1, zeq1']
    refine Or.inr ⟨rfl, rfl, rfl, ?_⟩
    show TLK (zm2 m (43 + 3) K N.1) (upd W K N.1)
    rw [n1]
    exact ⟨hk.1.globS hk.2.W.C (by omega) (by omega) (by omega) (cm_3 (by omega)), hk.2.term (by omega) n3 n2⟩
theorem term_rx0 (h : PA T e mm) (hp : p ≤ e) (hk : TLK m W) : TLP (y_readTerm T e m p b 0) (bif zc1 .ne (q_threads W) then (Int32.ofNat 0, W, p, b) else rt1 (q_readTo mm W p 0 (Int32.ofNat 1) (Int32.ofNat 8))) := by
  have g5 : m 43 5 = W 9 := hk.1.globR (k := 9) (o := 0) (s := 5) (by omega) (by omega) rfl
  have q9 : q_threads W = W 9 := rfl
  have h4 := hk.2.W.N4
  have z : ∀ n, n < 5 → zc1 .le (Int32.ofNat n) = !(zc1 .ne (Int32.ofNat n)) := by decide +kernel
  unfold y_readTerm q_readTo
  rw [zne0, cnF, g5, q9, hk.2.W.N, z _ (by omega), show (zla 0).getD 0 0 = Int32.ofNat 1 from rfl, show (zla 1).getD 0 0 = Int32.ofNat 8 from rfl, number_eq h hp]
  have nk := number_k (m := mm) (p := p) (a := 1) (c := 8) (by omega) (by omega)
  generalize q_number mm p (Int32.ofNat 1) (Int32.ofNat 8) = N at nk ⊢
  cases zc1 .ne (Int32.ofNat (nv W 9)) with
  | true =>
    simp only [Bool.not_true, cnT, cnF]
    exact Or.inl ⟨rfl, rfl, rfl⟩
  | false =>
    rw [zne2_n]
    cases hn : zc2 .eq N.1 (-1) with
    | true =>
      simp only [Bool.not_true, Bool.not_false, cnT, cnF, rt1, zeq0]
      exact Or.inl ⟨rfl, rfl, rfl⟩
    | false =>
      obtain ⟨n1, n2, n3⟩ := nk (zeq_f hn)
      simp only [Bool.not_false, cnT, cnF, rt1, zeq1']
      refine Or.inr ⟨rfl, rfl, rfl, ?_⟩
      show TLK (zm2 m (43 + 3) 0 N.1) (upd W 0 N.1)
      rw [n1]
      exact ⟨hk.1.globS hk.2.W.C (by omega) (by omega) (by omega) (cm_3 (by omega)), hk.2.term (by omega) n3 n2⟩
theorem trustL_rx {v : Int32} {x : Nat} (ev : v = Int32.ofNat x) (hx : x ≤ 15) (hv : zc2 .eq v (-1) = false) : ∀ (n l : Nat) (m : Nat → Nat → Int32) (W : Nat → Int32), l + n = 4 → TLK m W → (yl_readTrust v n l m).1 = Int32.ofNat 1 ∧ (l_readTrust v n l W).1 = Int32.ofNat 1 ∧ TLK (yl_readTrust v n l m).2 (l_readTrust v n l W).2 := by
  intro n
  induction n with
  | zero =>
    intro l m W _ h
    rw [l_readTrust, hv, cnF]
    exact ⟨rfl, rfl, h⟩
  | succ n ih =>
    intro l m W hk h
    rw [yl_readTrust, l_readTrust, hv, cnF]
    have hl : l < 4 := by omega
    have ec : cm (20 + l) = (5 + l, 1) := lt4 (P := fun l => cm (20 + l) = (5 + l, 1)) rfl rfl rfl rfl hl
    refine ih _ _ _ (by omega) ⟨h.1.lkS h.2.W.C (by omega) (by omega) (by omega) ec, ?_⟩
    rw [ev]
    exact h.2.trust hl hx
theorem trust_rx (h : PA T e mm) (hp : p ≤ e) (hk : TLK m W) : TLP (y_readTrust T e m p) (q_readTrust mm W p) := by
  unfold y_readTrust q_readTrust
  rw [number_eq h hp]
  have nk := number_k (m := mm) (p := p) (a := 0) (c := 15) (by omega) (by omega)
  generalize q_number mm p (Int32.ofNat 0) (Int32.ofNat 15) = N at nk ⊢
  rw [zne2_n]
  cases hn : zc2 .eq N.1 (-1) with
  | true =>
    rw [Bool.not_true, cnF]
    refine Or.inl ⟨rfl, ?_, rfl⟩
    show (l_readTrust N.1 4 0 W).1 = _
    rw [l_readTrust, hn, cnT]
  | false =>
    obtain ⟨n1, n2, -⟩ := nk (zeq_f hn)
    rw [Bool.not_false, cnT]
    obtain ⟨a1, a2, a3⟩ := trustL_rx n1 n2 hn 4 0 m W rfl hk
    exact Or.inr ⟨a1, a2, rfl, a3⟩
theorem word_rx (h : PA T e mm) (hG : PG mm) (hp : p ≤ e) (hk : TLK m W) : TLP (y_readWord T e m p) (q_readWordLine mm W p) := by
  have l1 := number_le (m := mm) (p := p) (lo := Int32.ofNat 0) (hi := Int32.ofNat 31) hG (by rw [h.1]; exact hp)
  rw [h.1] at l1
  unfold y_readWord q_readWordLine
  rw [number_eq h hp]
  have nk := number_k (m := mm) (p := p) (a := 0) (c := 31) (by omega) (by omega)
  generalize q_number mm p (Int32.ofNat 0) (Int32.ofNat 31) = N at nk l1 ⊢
  rw [number_eq h l1.2.1]
  have nj := number_k (m := mm) (p := N.2.1) (a := 0) (c := 9999) (by omega) (by omega)
  generalize q_number mm N.2.1 (Int32.ofNat 0) (Int32.ofNat 9999) = M at nj ⊢
  rw [zne2_n N.1, zne2_n M.1]
  cases hn : zc2 .eq N.1 (-1) with
  | true =>
    simp only [Bool.not_true, cnF]
    exact Or.inl ⟨rfl, rfl, rfl⟩
  | false =>
    obtain ⟨n1, n2, -⟩ := nk (zeq_f hn)
    cases hj : zc2 .eq M.1 (-1) with
    | true =>
      simp only [Bool.not_true, Bool.not_false, cnT, cnF]
      exact Or.inl ⟨rfl, rfl, rfl⟩
    | false =>
      obtain ⟨j1, j2, -⟩ := nj (zeq_f hj)
      simp only [Bool.not_false, cnT]
      refine Or.inr ⟨rfl, rfl, rfl, ?_⟩
      have hx : vx M.1 := ⟨_, j2, j1⟩
      have r1 := hk.1.globS (k := 32 + N.1.toNatClampNeg) (x := M.1) hk.2.W.C (by omega) (by omega) (by omega) (cm_w (by omega))
      have r2 := r1.globS (k := 64 + N.1.toNatClampNeg) (x := M.1) (WC_of (upd_ne _ _ (by omega)) hk.2.W.C) (by omega) (by omega) (by omega) (cm_t (by omega))
      exact ⟨r2, hk.2.word (by omega) hx⟩
theorem other_rx {l w : Int32} (hk : TLK m W) (hw : zc2 .eq w (-1) = false) : ∀ (n k : Nat), k + n = 4 → (xl_wordOther m 43 l w n k = Int32.ofNat 1 ∧ (l_readLock W l w n (Int32.ofNat 1) k).1 = Int32.ofNat 0) ∨ (xl_wordOther m 43 l w n k = Int32.ofNat 0 ∧ l_readLock W l w n (Int32.ofNat 1) k = (Int32.ofNat 1, upd W (16 + l.toNatClampNeg) w)) := by
  intro n
  induction n with
  | zero =>
    intro k _
    rw [xl_wordOther, l_readLock, zeq1', cnF]
    exact Or.inr ⟨rfl, rfl⟩
  | succ n ih =>
    intro k hkn
    have hk4 : k < 4 := by omega
    have ec : cm (16 + k) = (5 + k, 0) := lt4 (P := fun l => cm (16 + l) = (5 + l, 0)) rfl rfl rfl rfl hk4
    have g : m (43 + 5 + k) 0 = W (16 + k) := hk.1.lkR (by omega) (by omega) ec
    rw [xl_wordOther, l_readLock, zeq1', cnF, g, zne2_n]
    cases zc2 .eq (Int32.ofNat k) l with
    | true => rw [cnT, cnT]; exact ih (k + 1) (by omega)
    | false =>
      rw [cnF, cnF]
      cases zc2 .eq (W (16 + k)) w with
      | true =>
        rw [Bool.not_true, cnF, cnT]
        exact Or.inl ⟨rfl, (readLock_0 _ _).2⟩
      | false => rw [Bool.not_false, cnT, cnF]; exact ih (k + 1) (by omega)
theorem lock_rx (h : PA T e mm) (hG : PG mm) (hp : p ≤ e) (hk : TLK m W) : TLP (y_readLock T e m p) (q_readLock mm W p) := by
  have he := h.2.1
  have l1 := number_le (m := mm) (p := p) (lo := Int32.ofNat 0) (hi := Int32.ofNat 3) hG (by rw [h.1]; exact hp)
  rw [h.1] at l1
  unfold y_readLock q_readLock
  rw [number_eq h hp]
  have nk := number_k (m := mm) (p := p) (a := 0) (c := 3) (by omega) (by omega)
  generalize q_number mm p (Int32.ofNat 0) (Int32.ofNat 3) = N at nk l1 ⊢
  have hl := zby_len 1 (by omega)
  rw [name_eq h l1.2.1 (by omega)]
  have l2 := letters_le (m := mm) (p := N.2.1) hG (by rw [h.1]; exact l1.2.1)
  rw [h.1] at l2
  generalize q_letters mm N.2.1 = L at l2 ⊢
  dsimp only
  rw [name1 (by omega) l2.2, number_eq h l2.1]
  obtain ⟨w1, w2⟩ := ws_of h l2.2 l2.1 (s := 13) (by omega)
  have nj := number_k (m := mm) (p := L.1) (a := 0) (c := 31) (by omega) (by omega)
  generalize q_number mm L.1 (Int32.ofNat 0) (Int32.ofNat 31) = M at nj ⊢
  rw [zne2_n N.1]
  cases hn : zc2 .eq N.1 (-1) with
  | true =>
    simp only [Bool.not_true, cnT, cnF]
    exact Or.inl ⟨rfl, rfl, rfl⟩
  | false =>
    obtain ⟨n1, n2, -⟩ := nk (zeq_f hn)
    rw [Bool.not_false, cnF, cnT]
    cases hm : mtc T (zby 13) L.2 L.1 with
    | false =>
      rw [(w2 hm).2, cnF, show zc2 .ne (-1 : Int32) (-1) = false from by decide, cnF, cnF]
      exact Or.inl ⟨rfl, rfl, rfl⟩
    | true =>
      rw [(w1 hm).2, cnT, show zc2 .ne (Int32.ofNat 0) (-1) = true from by decide, cnT, cnT]
      cases hj : zc2 .eq M.1 (-1) with
      | true =>
        rw [cnT, cnT]
        exact Or.inl ⟨rfl, (readLock_0 _ _).2, rfl⟩
      | false =>
        obtain ⟨j1, j2, -⟩ := nj (zeq_f hj)
        rw [cnF, cnF]
        rcases other_rx (l := N.1) hk hj 4 0 rfl with ⟨a1, a2⟩ | ⟨a1, a2⟩
        · unfold x_isWordOfOther
          rw [a1, zeq1', cnF]
          exact Or.inl ⟨rfl, a2, rfl⟩
        · unfold x_isWordOfOther
          rw [a1, zeq0, cnT, a2]
          refine Or.inr ⟨rfl, rfl, rfl, ?_⟩
          have hl4 : N.1.toNatClampNeg < 4 := by omega
          have ec : cm (16 + N.1.toNatClampNeg) = (5 + N.1.toNatClampNeg, 0) := lt4 (P := fun l => cm (16 + l) = (5 + l, 0)) rfl rfl rfl rfl hl4
          show TLK (zm2 m (43 + 5 + N.1.toNatClampNeg) 0 M.1) (upd W (16 + N.1.toNatClampNeg) M.1)
          refine ⟨hk.1.lkS hk.2.W.C (by omega) (by omega) (by omega) ec, ?_⟩
          rw [j1]
          exact hk.2.lockw hl4 j2
end ZLN
end
section
/-! a program read alike -/
noncomputable def TLD (m : Nat → Nat → Int32) (W : Nat → Int32) (t L : Nat) : Prop := TLK m W ∧ W (376 + 103 * t + 22) = Int32.ofNat L ∧ W (376 + 103 * t + 21) = Int32.ofNat 0 ∧ t < nv W 9
noncomputable def dlo (K : Nat) : Nat := [0, 0, 0, 0, 0, 0, 1].getD K 0
noncomputable def dhi (K : Nat) : Nat := [3, 3, 31, 31, 999, 999, 9].getD K 0
theorem dhi_b : ∀ K, K < 7 → dhi K ≤ 999 ∧ (K ≤ 1 → dhi K ≤ 3) ∧ (K ≤ 3 → dhi K ≤ 31) ∧ dlo K ≤ 1 := by decide
theorem zla_d : ∀ K, K < 7 → (zla 2).getD K 0 = Int32.ofNat (dlo K) ∧ (zla 3).getD K 0 = Int32.ofNat (dhi K) := by
  intro K hK
  match K, hK with
  | 0, _ => exact ⟨rfl, rfl⟩
  | 1, _ => exact ⟨rfl, rfl⟩
  | 2, _ => exact ⟨rfl, rfl⟩
  | 3, _ => exact ⟨rfl, rfl⟩
  | 4, _ => exact ⟨rfl, rfl⟩
  | 5, _ => exact ⟨rfl, rfl⟩
  | 6, _ => exact ⟨rfl, rfl⟩
section ZPG
variable {T : Nat → Int32} {e p b t L : Nat} {m mm : Nat → Nat → Int32} {W : Nat → Int32}
/-- the world behind the kind of a deed -/
noncomputable def dd3 (W : Nat → Int32) (t L K : Nat) : Nat → Int32 := upd (upd (upd W (376 + 103 * t + (55 + 2 * L)) (Int32.ofNat K)) (376 + 103 * t + (55 + 2 * L) + 1) (Int32.ofNat 0)) (376 + 103 * t + 22) (Int32.ofNat (L + 1))
theorem deed_0 (hk : q_kindHere mm (q_letters mm p).1 (q_letters mm p).2 = -1) : q_readDeed mm W p t L = (Int32.ofNat 0, W, (q_letters mm p).1, (q_letters mm p).2) := by
  unfold q_readDeed
  rw [hk, show zc2 .eq (-1 : Int32) (-1) = true from by decide, cnT]
theorem deed_24 : (q_readDeed mm W p t 24).2.2.2 = (q_letters mm p).2 := by
  unfold q_readDeed
  rw [show zc2 .ne (Int32.ofNat 24) (Int32.ofNat 24) = false from by decide, cnF]
  cases zc2 .eq (q_kindHere mm (q_letters mm p).1 (q_letters mm p).2) (-1) with
  | true => rw [cnT]
  | false => rw [cnF]
theorem deed_K {K : Nat} (hk : q_kindHere mm (q_letters mm p).1 (q_letters mm p).2 = Int32.ofNat K) (hK : K < 7) (hL : L < 24) : q_readDeed mm W p t L = q_readTo mm (dd3 W t L K) (q_letters mm p).1 (376 + 103 * t + (55 + 2 * L) + 1) (Int32.ofNat (dlo K)) (Int32.ofNat (dhi K)) := by
  unfold q_readDeed
  rw [hk, zm_k K (by omega), cnF, tne_tt (by omega) (by omega) (show L ≠ 24 by omega), cnT, nv_on (by omega)]
  match K, hK with
  | 0, _ => rfl
  | 1, _ => rfl
  | 2, _ => rfl
  | 3, _ => rfl
  | 4, _ => rfl
  | 5, _ => rfl
  | 6, _ => rfl
theorem deed_7 (hk : q_kindHere mm (q_letters mm p).1 (q_letters mm p).2 = Int32.ofNat 7) (hL : L < 24) : q_readDeed mm W p t L = (Int32.ofNat 1, dd3 W t L 7, (q_letters mm p).1, (q_letters mm p).2) := by
  unfold q_readDeed
  rw [hk, zm_k 7 (by omega), cnF, tne_tt (by omega) (by omega) (show L ≠ 24 by omega), cnT, nv_on (by omega)]
  rfl
theorem dd3_ndd {K n : Nat} : upd (dd3 W t L K) (376 + 103 * t + (55 + 2 * L) + 1) (Int32.ofNat n) = ndd W t L K n := by
  funext c
  by_cases c1 : c = 376 + 103 * t + (55 + 2 * L) + 1
  · rw [c1, upd_at]
    exact ndd_n.symm
  · rw [upd_ne _ _ c1]
    unfold dd3 ndd
    by_cases c2 : c = 376 + 103 * t + 22
    · rw [c2, upd_at, upd_at]
    · rw [upd_ne _ _ c2, upd_ne _ _ c2, upd_ne _ _ c1, upd_ne (k := 376 + 103 * t + (55 + 2 * L + 1)) _ _ (by omega)]
theorem TLD.next {K n : Nat} (h : TLD m W t L) (ht : t < 4) (hL : L < 24) (hK : K ≤ 7) (hn : n ≤ 999) (h1 : K ≤ 1 → n ≤ 3) (h3 : K ≤ 3 → n ≤ 31) : TLD (x_addDeed m 43 t (Int32.ofNat K) (Int32.ofNat n)) (ndd W t L K n) t (L + 1) := by
  obtain ⟨⟨a1, a2⟩, a3, a4, a5⟩ := h
  have nL : nv W (376 + 103 * t + 22) = L := by
    unfold nv
    rw [a3]
    exact nv_on (by omega)
  refine ⟨⟨a1.dd1 a2.W.C ht a5 a3 hL, a2.dd1 ht nL hL a4 hK hn h1 h3⟩, ndd_22, (ndd_ne (by omega)).trans a4, ?_⟩
  rw [nv_of (ndd_ne (by omega))]
  exact a5
/-- a deed that is read: both fail at one place, or both go on with one more -/
noncomputable def TDP (t L : Nat) (X : Int32 × (Nat → Nat → Int32) × Nat × Nat) (Y : Int32 × (Nat → Int32) × Nat × Nat) : Prop := (X.1 = Int32.ofNat 0 ∧ Y.1 = Int32.ofNat 0 ∧ X.2.2.2 = Y.2.2.2) ∨ (X.1 = Int32.ofNat 1 ∧ Y.1 = Int32.ofNat 1 ∧ X.2.2.1 = Y.2.2.1 ∧ TLD X.2.1 Y.2.1 t (L + 1))
theorem deed_rx (h : PA T e mm) (hG : PG mm) (hp : p ≤ e) (ht : t < 4) (hL : L < 24) (hd : TLD m W t L) : TDP t L (y_readDeed T e m p t) (q_readDeed mm W p t L) := by
  have he := h.2.1
  have hl := zby_len 2 (by omega)
  have l2 := letters_le (m := mm) (p := p) hG (by rw [h.1]; exact hp)
  rw [h.1] at l2
  have dK := fun K => deed_K (mm := mm) (p := p) (W := W) (t := t) (L := L) (K := K)
  have d7 := deed_7 (mm := mm) (p := p) (W := W) (t := t) (L := L)
  have d0 := deed_0 (mm := mm) (p := p) (W := W) (t := t) (L := L)
  unfold y_readDeed
  rw [name_eq h hp (by omega)]
  generalize q_letters mm p = G at l2 dK d7 d0 ⊢
  dsimp only
  have hw := fun s (hs : s < 37) => ws_of h l2.2 l2.1 (s := s) hs
  rcases name2 (T := T) (p := G.1) (b := G.2) (by omega) l2.2 with ⟨a1, a2⟩ | ⟨K, s, a1, a2, a3⟩
  · rw [d0 (kind_0 (fun s h1 h2 => (hw s (by omega)).2 (a2 s h1 h2))), a1, show zc1 .lt (-1 : Int32) = true from by decide, cnT]
    exact Or.inl ⟨rfl, rfl, rfl⟩
  · have hs := ln2_b s (List.mem_of_getElem? a1)
    have hK : K < 8 := (List.getElem?_eq_some_iff.mp a1).1
    have kK := kind_K a1 ((hw s (by omega)).1 ((a3 s hs.1 hs.2).trans (decide_eq_true rfl))) (fun u h1 h2 h3 => (hw u (by omega)).2 ((a3 u h1 h2).trans (decide_eq_false h3)))
    have z : ∀ k, k < 8 → zc1 .lt (Int32.ofNat k) = false ∧ zc2 .le (Int32.ofNat k) (Int32.ofNat 7) = true := by decide +kernel
    rw [a2, (z K hK).1, (z K hK).2, cnF, cnT, nv_on (by omega)]
    by_cases k7 : K = 7
    · subst k7
      rw [d7 kK hL, show zc2 .ne (Int32.ofNat 7) (Int32.ofNat 7) = false from by decide, cnF]
      refine Or.inr ⟨rfl, rfl, rfl, ?_⟩
      exact hd.next (n := 0) ht hL (by omega) (by omega) (by omega) (by omega)
    · obtain ⟨z1, z2⟩ := zla_d K (by omega)
      obtain ⟨b1, b2, b3, b4⟩ := dhi_b K (by omega)
      rw [dK K kK (by omega) hL, tne_tt (by omega) (by omega) k7, cnT, z1, z2, number_eq h l2.1]
      unfold q_readTo
      have nk := number_k (m := mm) (p := G.1) (a := dlo K) (c := dhi K) (by omega) (by omega)
      generalize q_number mm G.1 (Int32.ofNat (dlo K)) (Int32.ofNat (dhi K)) = N at nk ⊢
      rw [zne2_n]
      cases hn : zc2 .eq N.1 (-1) with
      | true =>
        rw [Bool.not_true, cnF, cnT]
        exact Or.inl ⟨rfl, rfl, rfl⟩
      | false =>
        obtain ⟨n1, n2, -⟩ := nk (zeq_f hn)
        rw [Bool.not_false, cnT, cnF]
        refine Or.inr ⟨rfl, rfl, rfl, ?_⟩
        show TLD (x_addDeed m 43 t (Int32.ofNat K) N.1) (upd (dd3 W t L K) (376 + 103 * t + (55 + 2 * L) + 1) N.1) t (L + 1)
        rw [n1, dd3_ndd]
        exact hd.next ht hL (by omega) (by omega) (fun q => by have := b2 q; omega) (fun q => by have := b3 q; omega)
theorem deeds_rx (h : PA T e mm) (hG : PG mm) (ht : t < 4) : ∀ (n L : Nat) (m : Nat → Nat → Int32) (W : Nat → Int32) (p b : Nat), L + n = 24 → p ≤ e → TLD m W t L → TLP (yl_prog T e t n L m p b) (l_deeds mm t n L W p b) := by
  intro n
  induction n with
  | zero =>
    intro L m W p b hk hp hd
    obtain rfl : L = 24 := by omega
    rw [yl_prog, l_deeds]
    refine Or.inl ⟨rfl, rfl, ?_⟩
    show lkB T e p = (q_readDeed mm W p t 24).2.2.2
    rw [deed_24, lk_eq h hp]
    rfl
  | succ n ih =>
    intro L m W p b hk hp hd
    have hr := readDeed_le (m := mm) (W := W) (p := p) (t := t) (L := L) hG (by rw [h.1]; exact hp)
    have r := deed_rx h hG hp ht (by omega) hd
    rw [yl_prog, l_deeds]
    unfold RB at hr
    rw [h.1] at hr
    generalize y_readDeed T e m p t = X at r ⊢
    generalize q_readDeed mm W p t L = Y at r hr ⊢
    rcases r with ⟨r1, r2, r3⟩ | ⟨r1, r2, r3, r4⟩
    · rw [r1, r2, zne0, cnF, cnF]
      exact Or.inl ⟨rfl, rfl, r3⟩
    · rw [r1, r2, zn1, cnT, cnT, r3, sign_eq h hr.1]
      dsimp only
      have hp2 := passes_le (m := mm) (p := Y.2.2.1) (c := 44) hG (by rw [h.1]; exact hr.1)
      rw [sign_eq h hr.1, h.1] at hp2
      cases zc1 .ne (y_skipSign T e (lkB T e Y.2.2.1) 44).1 with
      | true =>
        rw [cnT, cnT]
        exact ih _ _ _ _ _ (by omega) hp2.1 r4
      | false =>
        rw [cnF, cnF]
        exact Or.inr ⟨rfl, rfl, rfl, r4.1⟩
theorem rclears_rx {W0 : Nat → Int32} {M : Nat → Nat → Int32} (h : PA T e mm) (hG : PG mm) (hp : p ≤ e) (ht : t < 4) (ht9 : nv W0 9 = t) (hk : TLK m W0) (eM : M = zm2 (x_clear m 43 t) 43 5 (Int32.ofNat (t + 1))) : ∀ (n k : Nat) (W : Nat → Int32), k + n = 103 → (∀ c, c < 376 + 103 * t ∨ 376 + 103 * t + 103 ≤ c → W c = W0 c) → (∀ c, c < k → W (376 + 103 * t + c) = Int32.ofNat 0) → TLP (yl_prog T e t 24 0 M p b) (l_rclears mm p b t n k W) := by
  intro n
  induction n with
  | zero =>
    intro k W hkn e0 hz
    have hz0 : ∀ c, c < 103 → upd W 9 (Int32.ofNat (t + 1)) (376 + 103 * t + c) = Int32.ofNat 0 := fun c hc => by rw [upd_ne _ _ (by omega)]; exact hz c (by omega)
    have e1 : ∀ c, c < 376 + 103 * t ∨ 376 + 103 * t + 103 ≤ c → c ≠ 9 → upd W 9 (Int32.ofNat (t + 1)) c = W0 c := fun c hc h9 => by rw [upd_ne _ _ h9]; exact e0 c hc
    rw [l_rclears]
    unfold q_thread37
    refine deeds_rx h hG ht 24 0 _ _ _ _ (by omega) hp ⟨⟨?_, ?_⟩, hz0 22 (by omega), hz0 21 (by omega), ?_⟩
    · subst eM
      refine hk.1.fresh hk.2.W ht ht9 e1 (upd_at _ _ _) hz0 (fun i l hi hn => ?_) (zx_at _ _ _ _) (fun c hc => ?_)
      · rw [zx_o _ _ (by omega)]
        exact clear_ne (by omega)
      · have q := clear_c (m := m) (b := 43) (t := t) hc
        have hne : (cmT t c).1 ≠ 0 := by
          rw [cmT_0]
          have a := List.all_eq_true.mp cmT_sv c (List.mem_range.mpr (by omega))
          rw [Bool.and_eq_true] at a
          have := Nat.le_of_ble_eq_true a.1
          dsimp only
          omega
        rw [zx_o _ _ (by omega)]
        exact q
    · exact hk.2.fresh ht e1 (upd_at _ _ _) hz0
    · have : nv (upd W 9 (Int32.ofNat (t + 1))) 9 = t + 1 := by
        unfold nv
        rw [upd_at]
        exact nv_on (by omega)
      omega
  | succ n ih =>
    intro k W hkn e0 hz
    rw [l_rclears]
    exact ih _ _ (by omega) (fun c hc => by rw [upd_ne _ _ (by omega)]; exact e0 c hc) (clr_step hz)
theorem thread_rx (h : PA T e mm) (hG : PG mm) (hp : p ≤ e) (hk : TLK m W) : TLP (y_readProgram T e m p b) (q_readThread mm W p b) := by
  have h4 := hk.2.W.N4
  have e9 : mv m 43 5 = nv W 9 := hk.1.n9
  unfold y_readProgram q_readThread
  rw [e9]
  by_cases h9 : nv W 9 = 4
  · rw [h9, show zc2 .lt (Int32.ofNat 4) (Int32.ofNat 4) = false from by decide, show zc2 .ne (Int32.ofNat 4) (Int32.ofNat 4) = false from by decide, cnF, cnF]
    exact Or.inl ⟨rfl, rfl, rfl⟩
  · rw [zclt (by omega) (by omega) (show nv W 9 < 4 by omega), tne_tt (by omega) (by omega) h9, cnT, cnT]
    exact rclears_rx h hG hp (by omega) rfl hk rfl 103 0 W (by omega) (fun _ _ => rfl) (fun c hc => absurd hc (Nat.not_lt_zero _))
/-- a line, alike -/
theorem line_rx (h : PA T e mm) (hG : PG mm) (hp : p ≤ e) (hk : TLK m W) : TLP (y_readLine T e m p) (q_readLine mm W (q_letters mm p).1 (q_letters mm p).2) := by
  have he := h.2.1
  have hl : (zby 0).length < 100000 := by have := zby_len 0 (by omega); omega
  have l2 := letters_le (m := mm) (p := p) hG (by rw [h.1]; exact hp)
  rw [h.1] at l2
  unfold y_readLine
  rw [name_eq h hp hl]
  generalize q_letters mm p = G at l2 ⊢
  dsimp only
  have hw := fun s (hs : s < 37) => ws_of h l2.2 l2.1 (s := s) hs
  rcases name0 (T := T) (p := G.1) (b := G.2) (by omega) l2.2 with ⟨a1, a2⟩ | ⟨K, s, a1, a2, a3⟩
  · rw [line_0 (fun s h1 h2 => (hw s (by omega)).2 (a2 s h1 h2)), a1, show zc2 .eq (-1 : Int32) (-1) = true from by decide, cnT]
    exact Or.inl ⟨rfl, rfl, rfl⟩
  · have hs := ln0_b s (List.mem_of_getElem? a1)
    have hK : K < 14 := (List.getElem?_eq_some_iff.mp a1).1
    have hT := (hw s (by omega)).1 ((a3 s hs.1 hs.2).trans (decide_eq_true rfl))
    have hF := fun u h1 h2 h3 => (hw u (by omega)).2 ((a3 u h1 h2).trans (decide_eq_false h3))
    rw [a2, zm_k K hK, cnF, nv_on (by omega)]
    clear a2 a3
    match K, a1 with
    | 0, a1 =>
      cases a1
      rw [line_25 hT hF]
      exact term_rx0 h l2.1 hk
    | 1, a1 => cases a1; rw [line_t (K := 1) (by omega) (by omega) hT hF]; exact term_rx1 h l2.1 (by omega) (by omega) hk
    | 2, a1 => cases a1; rw [line_t (K := 2) (by omega) (by omega) hT hF]; exact term_rx1 h l2.1 (by omega) (by omega) hk
    | 3, a1 => cases a1; rw [line_t (K := 3) (by omega) (by omega) hT hF]; exact term_rx1 h l2.1 (by omega) (by omega) hk
    | 4, a1 => cases a1; rw [line_t (K := 4) (by omega) (by omega) hT hF]; exact term_rx1 h l2.1 (by omega) (by omega) hk
    | 5, a1 => cases a1; rw [line_t (K := 5) (by omega) (by omega) hT hF]; exact term_rx1 h l2.1 (by omega) (by omega) hk
    | 6, a1 => cases a1; rw [line_t (K := 6) (by omega) (by omega) hT hF]; exact term_rx1 h l2.1 (by omega) (by omega) hk
    | 7, a1 => cases a1; rw [line_t (K := 7) (by omega) (by omega) hT hF]; exact term_rx1 h l2.1 (by omega) (by omega) hk
    | 8, a1 => cases a1; rw [line_24 hT hF]; exact trust_rx h l2.1 hk
    | 9, a1 => cases a1; rw [line_22 hT hF]; exact word_rx h hG l2.1 hk
    | 10, a1 =>
      cases a1
      rw [line_26 hT hF]
      exact Or.inr ⟨rfl, rfl, rfl, hk.1.globS hk.2.W.C (by omega) (by omega) (by omega) (cm_3 (k := 8) (by omega)), hk.2.term (k := 8) (n := 1) (by omega) (by decide) (by decide)⟩
    | 11, a1 =>
      cases a1
      rw [line_27 hT hF]
      exact Or.inr ⟨rfl, rfl, rfl, hk.1.globS hk.2.W.C (by omega) (by omega) (by omega) (cm_3 (k := 8) (by omega)), hk.2.term (k := 8) (n := 0) (by omega) (by decide) (by decide)⟩
    | 12, a1 => cases a1; rw [line_23 hT hF]; exact lock_rx h hG l2.1 hk
    | 13, a1 => cases a1; rw [line_21 hT]; exact thread_rx h hG l2.1 hk
    | k + 14, _ => exact absurd hK (by omega)
end ZPG
end
section
/-! a text read alike -/
theorem look_end {T : Nat → Int32} {e : Nat} (he : e ≤ 400) : ∀ n p, p + n = e → (yl_look T e n p).1 = e ∨ zc2 .ne (T (yl_look T e n p).1) (Int32.ofNat 32) = true := by
  intro n
  induction n with
  | zero => intro p hp; exact Or.inl (by rw [yl_look]; omega)
  | succ n ih =>
    intro p hp
    rw [yl_look, zcge_f (by omega) (by omega) (by omega), cnF]
    cases hz : zc2 .ne (T p) (Int32.ofNat 32) with
    | true => exact Or.inr hz
    | false => exact ih (p + 1) (by omega)
theorem lk_e {T : Nat → Int32} {e : Nat} : lkB T e e = e := by
  unfold lkB
  rw [Nat.sub_self, yl_look]
theorem lk_lk {T : Nat → Int32} {e p : Nat} (he : e ≤ 400) (hp : p ≤ e) : lkB T e (lkB T e p) = lkB T e p := by
  have h3 := lkB_le (T := T) he hp
  have h4 := look_end (T := T) he (e - p) p (by omega)
  have e5 : (yl_look T e (e - p) p).1 = lkB T e p := rfl
  rw [e5] at h4
  generalize lkB T e p = r at h3 h4 ⊢
  by_cases q : r = e
  · rw [q]; exact lk_e
  · have h5 : zc2 .ne (T r) (Int32.ofNat 32) = true := by
      rcases h4 with h4 | h4
      · exact absurd h4 q
      · exact h4
    obtain ⟨k, hk⟩ : ∃ k, e - r = k + 1 := ⟨e - r - 1, by omega⟩
    unfold lkB
    rw [hk, yl_look, zcge_f (by omega) (by omega) (by omega), cnF, h5, cnT]
noncomputable def TLA (X : Int32 × (Nat → Nat → Int32) × Nat × Nat) (Y : Int32 × (Nat → Int32) × Nat × Nat) : Prop := (X.1 = -1 ∧ Y.1 = Int32.ofNat 1 ∧ TLK X.2.1 Y.2.1) ∨ (Y.1 = Int32.ofNat 0 ∧ X.1 = Int32.ofNat Y.2.2.2)
theorem zne_same (x : Int32) : zc2 .ne x x = false := by
  rw [zne2_n, show zc2 .eq x x = true from decide_eq_true rfl]
  rfl
section ZTX
variable {T : Nat → Int32} {e : Nat} {mm : Nat → Nat → Int32}
theorem all_rx (h : PA T e mm) (hG : PG mm) : ∀ (n k : Nat) (m : Nat → Nat → Int32) (W : Nat → Int32) (p b : Nat), k + n = 14 → p ≤ e → TLK m W → TLA (yl_all T e n k m p b) (l_readText mm n k W p b) := by
  have he := h.2.1
  intro n
  induction n with
  | zero =>
    intro k m W p b _ hp _
    rw [yl_all, l_readText]
    refine Or.inr ⟨rfl, ?_⟩
    show Int32.ofNat (lkB T e p) = Int32.ofNat (q_letters mm p).2
    rw [lk_eq h hp]
    rfl
  | succ n ih =>
    intro k m W p b hk hp hd
    have l2 := letters_le (m := mm) (p := p) hG (by rw [h.1]; exact hp)
    have hr := readLine_RB (m := mm) (W := W) (p := (q_letters mm p).1) (b := (q_letters mm p).2) hG l2.1 l2.2
    have r := line_rx h hG hp hd
    rw [yl_all, l_readText]
    unfold RB at hr
    rw [h.1] at hr
    generalize y_readLine T e m p = X at r ⊢
    generalize q_readLine mm W (q_letters mm p).1 (q_letters mm p).2 = Y at r hr ⊢
    rcases r with ⟨r1, r2, r3⟩ | ⟨r1, r2, r3, r4⟩
    · rw [r1, r2, zne0, cnF, cnF]
      exact Or.inr ⟨rfl, congrArg Int32.ofNat r3⟩
    · have q1 := lkB_le (T := T) he hr.1
      have q2 := lk_lk (T := T) he hr.1
      rw [r1, r2, zn1, cnT, cnT, r3, ← lk_eq h hr.1, h.1]
      generalize lkB T e Y.2.2.1 = Q at q1 q2 ⊢
      by_cases qe : Q = e
      · subst qe
        rw [zclt_f (by omega) (by omega) (Nat.le_refl _), zne_same, cnF, cnF]
        exact Or.inl ⟨rfl, rfl, r4⟩
      · have hp2 := passes_le (m := mm) (p := Q) (c := 59) hG (by rw [h.1]; omega)
        rw [zclt (by omega) (by omega) (show Q < e by omega), tne_tt (by omega) (by omega) qe, cnT, cnT]
        rw [sign_eq h (by omega), q2, h.1] at hp2
        rw [sign_eq h (by omega), q2]
        dsimp only at hp2 ⊢
        cases zc1 .ne (y_skipSign T e Q 59).1 with
        | true =>
          rw [cnT, cnT]
          exact ih _ _ _ _ _ (by omega) hp2.1 r4
        | false =>
          rw [cnF, cnF]
          exact Or.inr ⟨rfl, rfl⟩
theorem readAll_rx {m : Nat → Nat → Int32} {W : Nat → Int32} (h : PA T e mm) (hG : PG mm) (hk : TLK m W) : TLA (y_readAll18 T e m 0) (q_readText mm W 0) := by
  have he := h.2.1
  have q1 := lkB_le (T := T) he (Nat.zero_le e)
  unfold y_readAll18 q_readText
  rw [← lk_eq h (Nat.zero_le e), h.1]
  generalize lkB T e 0 = Q at q1 ⊢
  by_cases qe : Q = e
  · subst qe
    rw [zclt_f (by omega) (by omega) (Nat.le_refl _), zne_same, cnF, cnF]
    exact Or.inl ⟨rfl, rfl, hk⟩
  · rw [zclt (by omega) (by omega) (show Q < e by omega), tne_tt (by omega) (by omega) qe, cnT, cnT]
    exact all_rx h hG 14 0 _ _ _ _ rfl q1.2 hk
end ZTX
end
