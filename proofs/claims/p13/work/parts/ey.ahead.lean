/-! ticks ahead, alike; the tape, the image -/
section ZAH
variable {m M : Nat → Nat → Int32} {t x n : Int32} {W : Nat → Int32}
theorem bnd_D {n0 : Nat} {D : Int32} (h : DU 0 D) (hn : n0 = 400) : bnd n0 D = D := by
  subst hn
  rcases h with h | ⟨i, -, h2, h3⟩
  · rw [h]; exact bnd_m
  · rw [h3]; exact bnd_i h2 (by omega)
theorem cpy_rc (h : RC m 1 W) (hw : WG W) (hx : XI m) (y : Int32) : RC (zm2 (x_copyFrom m 43 1) (43 + 3) 4 y) 43 (upd W 4 y) := (h.copy (b := 43) hw (Or.inr (by omega)) hx.1.1).globS hw.C (by omega) (by omega) (by omega) (cm_3 (k := 4) (by omega))
theorem an_due (h : LR m) (hx : XI m) : CH [0] m (e_due m t) (q_due M (m 138) t) := by
  unfold e_due q_due
  rw [noT h M t]
  cases hs : sOK m t with
  | false => simp only [cnF, zeq1']; exact CH.no h (AN.x 0 rfl rfl)
  | true =>
    obtain ⟨-, ht, ht4⟩ := sOK_n h hs
    simp only [cnT, zeq0]
    have e4 : m (1 + 3) 4 = m 138 4 := h.1.1.globR (by omega) (by omega) (cm_3 (k := 4) (by omega))
    have rc := cpy_rc h.1.1 h.1.2.W hx (m 138 4)
    rw [upd_self] at rc
    have f := taT_ok (t := t.toNatClampNeg) (x := m (1 + 3) 4) (q := Int32.ofNat 400) hx.1.1 hx.1.2 hx.2.1.1 hx.2.1.2 (by decide)
    have e1 : (e_taT m t.toNatClampNeg (m (1 + 3) 4) (Int32.ofNat 400)).1 = (q_dueOf (zrow (zm2 M 137 0 (Int32.ofNat 0)) 140 (crow (m 138) (zm2 M 137 0 (Int32.ofNat 0) 140))) (m 138) t.toNatClampNeg).1 := by
      unfold e_taT
      rw [show zc1 .ge (Int32.ofNat 400) = true from by decide, cnT, e4]
      have r := taT_rx (t := t.toNatClampNeg) (x := m 138 4) (n0 := 400) (by omega) 400 0 0 _ _ (zrow (zm2 M 137 0 (Int32.ofNat 0)) 140 (crow (m 138) (zm2 M 137 0 (Int32.ofNat 0) 140))) (by omega) (by omega) rc (cpy43_c hx.1.1 hx.2.1.1) h.1.2 ht
      exact r.trans (bnd_D (dueT_lo _ _ _ _ (by omega)) rfl)
    have hm : (q_dueOf (zrow (zm2 M 137 0 (Int32.ofNat 0)) 140 (crow (m 138) (zm2 M 137 0 (Int32.ofNat 0) 140))) (m 138) t.toNatClampNeg).2.2 137 0 = Int32.ofNat 0 := dueOf_m0 (t := t.toNatClampNeg) 401 0 (m 138) (zrow (zm2 M 137 0 (Int32.ofNat 0)) 140 (crow (m 138) (zm2 M 137 0 (Int32.ofNat 0) 140))) h.1.2.W h.1.2.2.1
    have hb : ∀ V k, k < 788 → crow ((q_dueOf (zrow (zm2 M 137 0 (Int32.ofNat 0)) 140 (crow (m 138) (zm2 M 137 0 (Int32.ofNat 0) 140))) (m 138) t.toNatClampNeg).2.2 140) V k = m 138 k := fun V => crow_back (dueOf_ok (t := t.toNatClampNeg) 401 0 (m 138) _ h.1.2.W h.1.2.2.1)
    have f3 := f.2.2.1
    generalize q_dueOf (zrow (zm2 M 137 0 (Int32.ofNat 0)) 140 (crow (m 138) (zm2 M 137 0 (Int32.ofNat 0) 140))) (m 138) t.toNatClampNeg = D at e1 hm hb ⊢
    generalize e_taT m t.toNatClampNeg (m (1 + 3) 4) (Int32.ofNat 400) = E at e1 f3 ⊢
    have hb1 := hb D.2.1
    generalize crow (D.2.2 140) D.2.1 = V at hb1 ⊢
    refine ⟨AN.v hm e1, ?_, h.1.2.of hb1, ok.of h.2.2.2.2.2.2.1 (hb1 10 (by omega)), fun i l hi => f3 i l (by omega)⟩
    exact (h.1.1.far (fun i l h1 h2 => f3 i l (by omega))).of h.1.2.W hb1
theorem taX_eq (h : RC m 1 W) (hz : WZ W) (hx : XI m) {b n0 : Nat} (hb : b ≤ 16) (hn : n0 ≤ 400) : (e_taX m (Int32.ofNat b) (Int32.ofNat n0)).1 = bnd n0 (q_dueBy M W b).1 := by
  have rc := cpy_rc h hz.W hx (Int32.ofNat b)
  have z4 : WZ (upd W 4 (Int32.ofNat b)) := hz.term (by omega) (Nat.zero_le _) hb
  unfold e_taX q_dueBy q_dueOfX
  rw [show zc1 .ge (Int32.ofNat n0) = true from by
    refine decide_eq_true ?_
    rw [Int32.le_iff_toInt_le, Int32.toInt_zero, zoN (by omega)]
    omega, cnT, nv_on (by omega)]
  have r := taX_rx (x := Int32.ofNat b) (n0 := n0) hn n0 0 (400 - n0) _ _ (zrow M 140 (crow W (M 140))) (by omega) (by omega) rc (cpy43_c hx.1.1 hx.2.1.1) z4
  rw [show n0 + 1 + (400 - n0) = 401 by omega] at r
  exact r
theorem an_plain (h : LR m) (hx : XI m) : (e_plain m).1 = (q_plain M (m 138)).1 ∧ RC (e_plain m).2 1 (q_plain M (m 138)).2.1 ∧ WZ (q_plain M (m 138)).2.1 ∧ TX (q_plain M (m 138)).2.1 ∧ ∀ i l, i = 0 ∨ (85 ≤ i ∧ i ≠ 131) → (e_plain m).2 i l = m i l := by
  have f := (taX_ok (x := Int32.ofNat 16) (q := Int32.ofNat 400) hx.1.1 hx.1.2 hx.2.1.1 hx.2.1.2 (by decide)).2.2.1
  have hb := dueBy_ok (W := m 138) (m := zm2 M 137 0 (Int32.ofNat 0)) (b := 16) h.1.2.W h.1.2.2.1
  have e1 := taX_eq (M := zm2 M 137 0 (Int32.ofNat 0)) h.1.1 h.1.2 hx (b := 16) (n0 := 400) (by omega) (by omega)
  have dD : DU 0 (q_dueBy (zm2 M 137 0 (Int32.ofNat 0)) (m 138) 16).1 := dueX_lo 401 0 _ _ (by omega)
  unfold e_plain q_plain
  generalize e_taX m (Int32.ofNat 16) (Int32.ofNat 400) = E at f e1 ⊢
  generalize q_dueBy (zm2 M 137 0 (Int32.ofNat 0)) (m 138) 16 = D at hb e1 dD ⊢
  refine ⟨e1.trans (bnd_D dD rfl), ?_, h.1.2.of hb, ok.of h.2.2.2.2.2.2.1 (hb 10 (by omega)), fun i l hi => f i l (by omega)⟩
  exact (h.1.1.far (fun i l h1 h2 => f i l (by omega))).of h.1.2.W hb
noncomputable def QSt (a s b l : Int32) : Prop := (a = -1 ∧ b = -1 ∧ l = -1 ∧ s = Int32.ofNat 401) ∨ ∃ v i, v ≤ 400 ∧ i < 17 ∧ a = Int32.ofNat i ∧ b = a ∧ s = Int32.ofNat v ∧ l = s
theorem quick_rx {f : Int32} (hf : zc1 .eq f = zc1 .ne x) : ∀ (n : Nat) (a s b l : Int32) (k : Nat) (m : Nat → Nat → Int32) (W : Nat → Int32) (M : Nat → Nat → Int32), k + n = 17 → RC m 1 W → WZ W → XI m → QSt a s b l → (xl_quickL f n a s k m).1 = (l_quickest x n b l k W M).1 ∧ RC (xl_quickL f n a s k m).2 1 (l_quickest x n b l k W M).2.1 ∧ (∀ j, j < 788 → (l_quickest x n b l k W M).2.1 j = W j) ∧ (∀ i c, i < 43 ∨ 85 ≤ i → (xl_quickL f n a s k m).2 i c = m i c) ∧ (l_quickest x n b l k W M).2.2 137 0 = M 137 0 := by
  intro n
  induction n with
  | zero =>
    intro a s b l k m W M _ h hz hx hq
    rw [xl_quickL, l_quickest]
    have e : ∀ i, i < 17 → zc2 .ne (Int32.ofNat i) (-1) = true := by decide +kernel
    rcases hq with ⟨q1, q2, q3, q4⟩ | ⟨v, i, q1, q2, q3, q4, q5, q6⟩
    · subst q1; subst q2; subst q3
      rw [show zc2 .ne (-1 : Int32) (-1) = false from by decide, cnF]
      cases zc1 .ne x with
      | true => exact ⟨rfl, h, fun _ _ => rfl, fun _ _ _ => rfl, rfl⟩
      | false => exact ⟨rfl, h, fun _ _ => rfl, fun _ _ _ => rfl, rfl⟩
    · rw [q4, q6, q3, e i q2, cnT, hf]
      cases zc1 .ne x with
      | true => exact ⟨rfl, h, fun _ _ => rfl, fun _ _ _ => rfl, rfl⟩
      | false => exact ⟨rfl, h, fun _ _ => rfl, fun _ _ _ => rfl, rfl⟩
  | succ n ih =>
    intro a s b l k m W M hk h hz hx hq
    have hb := dueBy_ok (W := W) (m := M) (b := k) hz.W hz.2.1
    have hm := dueBy_m0 (W := W) (m := M) (b := k) hz.W hz.2.1
    have dD := dueX_lo 401 0 (upd W 4 (Int32.ofNat k)) (zrow M 140 (crow W (M 140))) (by omega)
    have dD' : DU 0 (q_dueBy M W k).1 := dD
    have hsq : SQ s := by
      rcases hq with ⟨-, -, -, q4⟩ | ⟨v, i, q1, q2, q3, q4, q5, q6⟩
      · exact ⟨401, by omega, q4⟩
      · exact ⟨v, by omega, q5⟩
    have g := taX_ok (x := Int32.ofNat k) hx.1.1 hx.1.2 hx.2.1.1 hx.2.1.2 hsq.le1
    -- the class's answer
    have ec : (e_taX m (Int32.ofNat k) (s - Int32.ofNat 1)).1 = (bif zc2 .lt (q_dueBy M W k).1 s then (q_dueBy M W k).1 else -1) := by
      have key : ∀ v, 1 ≤ v → v ≤ 401 → bnd (v - 1) (q_dueBy M W k).1 = (bif zc2 .lt (q_dueBy M W k).1 (Int32.ofNat v) then (q_dueBy M W k).1 else -1) := by
        intro v h1 h2
        rcases dD' with e | ⟨i, -, i2, i3⟩
        · rw [e, bnd_m]
          cases zc2 .lt (-1) (Int32.ofNat v) <;> rfl
        · rw [i3]
          by_cases hi : i < v
          · rw [bnd_i (by omega) (by omega), zclt (by omega) (by omega) hi, cnT]
          · rw [bnd_o (by omega) i2, zclt_f (by omega) (by omega) (by omega), cnF]
      obtain ⟨v, v1, v2⟩ := hsq
      subst v2
      by_cases hv : v = 0
      · subst hv
        have e0 : e_taX m (Int32.ofNat k) (Int32.ofNat 0 - Int32.ofNat 1) = (-1, m) := by
          unfold e_taX
          rw [show zc1 .ge (Int32.ofNat 0 - Int32.ofNat 1) = false from by decide, cnF]
        rw [e0]
        rcases dD' with e | ⟨i, -, i2, i3⟩
        · rw [e]
          cases zc2 .lt (-1) (Int32.ofNat 0) <;> rfl
        · rw [i3, zclt_f (by omega) (by omega) (Nat.zero_le _), cnF]
      · rw [i_sub (by omega), taX_eq (M := M) h hz hx (by omega) (by omega)]
        exact key v (by omega) v1
    have hx2 := hx.of43 g.1 g.2.1 g.2.2.1
    have h2 : RC (e_taX m (Int32.ofNat k) (s - Int32.ofNat 1)).2 1 (q_dueBy M W k).2.1 := (h.far (fun i l h1 h2 => g.2.2.1 i l (by omega))).of hz.W hb
    have hz2 := hz.of hb
    have fr := g.2.2.1
    rw [xl_quickL, l_quickest, ec]
    generalize (e_taX m (Int32.ofNat k) (s - Int32.ofNat 1)).2 = m2 at hx2 h2 fr ⊢
    generalize q_dueBy M W k = D at hb hm dD' hz2 h2 ⊢
    have fin : ∀ a s b l, QSt a s b l → (xl_quickL f n a s (k + 1) m2).1 = (l_quickest x n b l (k + 1) D.2.1 D.2.2).1 ∧ RC (xl_quickL f n a s (k + 1) m2).2 1 (l_quickest x n b l (k + 1) D.2.1 D.2.2).2.1 ∧ (∀ j, j < 788 → (l_quickest x n b l (k + 1) D.2.1 D.2.2).2.1 j = W j) ∧ (∀ i c, i < 43 ∨ 85 ≤ i → (xl_quickL f n a s (k + 1) m2).2 i c = m i c) ∧ (l_quickest x n b l (k + 1) D.2.1 D.2.2).2.2 137 0 = M 137 0 := by
      intro a s b l hq
      obtain ⟨i1, i2, i3, i4, i5⟩ := ih a s b l (k + 1) m2 D.2.1 D.2.2 (by omega) h2 hz2 hx2 hq
      exact ⟨i1, i2, fun j hj => (i3 j hj).trans (hb j hj), fun i c hi => (i4 i c hi).trans (fr i c (by omega)), i5.trans hm⟩
    rcases hq with ⟨q1, q2, q3, q4⟩ | ⟨v, i, q1, q2, q3, q4, q5, q6⟩
    · subst q1; subst q2; subst q3; subst q4
      rw [show zc2 .eq (-1 : Int32) (-1) = true from by decide, cnT]
      rcases dD' with e | ⟨i, -, i2, i3⟩
      · rw [e, show zc2 .lt (-1 : Int32) (Int32.ofNat 401) = true from by decide, cnT, show zc2 .eq (-1 : Int32) (-1) = true from by decide, cnT, cnT]
        exact fin _ _ _ _ (Or.inl ⟨rfl, rfl, rfl, rfl⟩)
      · have ne : ∀ i, i ≤ 400 → zc2 .eq (Int32.ofNat i) (-1) = false := by decide +kernel
        rw [i3, zclt (by omega) (by omega) (show i < 401 by omega), cnT, ne i i2, cnF, cnF]
        exact fin _ _ _ _ (Or.inr ⟨i, k, i2, by omega, rfl, rfl, rfl, rfl⟩)
    · have ne : ∀ i, i ≤ 400 → zc2 .eq (Int32.ofNat i) (-1) = false := by decide +kernel
      rw [q6, q5, ne v q1, cnF]
      have qq : QSt a (Int32.ofNat v) b (Int32.ofNat v) := Or.inr ⟨v, i, q1, q2, q3, q4, rfl, rfl⟩
      rcases dD' with e | ⟨j, -, j2, j3⟩
      · rw [e, show zc2 .eq (-1 : Int32) (-1) = true from by decide, cnT]
        have e3 : zc2 .eq (bif zc2 .lt (-1 : Int32) (Int32.ofNat v) then (-1 : Int32) else -1) (-1) = true := by cases zc2 .lt (-1 : Int32) (Int32.ofNat v) <;> decide
        rw [e3, cnT]
        exact fin _ _ _ _ qq
      · rw [j3, ne j j2, cnF]
        by_cases hj : j < v
        · rw [zclt (by omega) (by omega) hj, cnT, cnT, ne j j2, cnF]
          exact fin _ _ _ _ (Or.inr ⟨j, k, j2, by omega, rfl, rfl, rfl, rfl⟩)
        · rw [zclt_f (by omega) (by omega) (by omega), cnF, cnF, show zc2 .eq (-1 : Int32) (-1) = true from by decide, cnT]
          exact fin _ _ _ _ qq
theorem an_quickest (h : LR m) (hx : XI m) : CH [1] m (e_quickest m x) (q_quickest M (m 138) x) := by
  unfold e_quickest q_quickest
  rw [in01]
  cases hs : tOK x with
  | false => simp only [cnF]; exact CH.no h (AN.x 0 rfl rfl)
  | true =>
    simp only [cnT]
    have q0 : QSt (-1) (Int32.ofNat 401) (-1) (-1) := Or.inl ⟨rfl, rfl, rfl, rfl⟩
    rcases t01 hs with e | e
    · subst e
      rw [show zc1 .ne (Int32.ofNat (Int32.ofNat 0).toNatClampNeg) = false from by decide, cnF]
      have qr := quick_rx (x := Int32.ofNat 0) (f := Int32.ofNat 1) (by decide) 17 _ _ _ _ 0 m (m 138) (zm2 M 137 0 (Int32.ofNat 0)) (by omega) h.1.1 h.1.2 hx q0
      rw [z_0] at qr
      generalize xl_quickL (Int32.ofNat 1) 17 (-1) (Int32.ofNat 401) 0 m = E at qr ⊢
      generalize l_quickest (Int32.ofNat 0) 17 (-1) (-1) 0 (m 138) (zm2 M 137 0 (Int32.ofNat 0)) = D at qr ⊢
      obtain ⟨a1, a2, a3, a4, a5⟩ := qr
      exact ⟨AN.v a5 a1, a2, h.1.2.of a3, ok.of h.2.2.2.2.2.2.1 (a3 10 (by omega)), fun i l hi => a4 i l (by omega)⟩
    · subst e
      rw [show zc1 .ne (Int32.ofNat (Int32.ofNat 1).toNatClampNeg) = true from by decide, cnT]
      have qr := quick_rx (x := Int32.ofNat 1) (f := Int32.ofNat 0) (by decide) 17 _ _ _ _ 0 m (m 138) (zm2 M 137 0 (Int32.ofNat 0)) (by omega) h.1.1 h.1.2 hx q0
      rw [z_0] at qr
      generalize xl_quickL (Int32.ofNat 0) 17 (-1) (Int32.ofNat 401) 0 m = E at qr ⊢
      generalize l_quickest (Int32.ofNat 1) 17 (-1) (-1) 0 (m 138) (zm2 M 137 0 (Int32.ofNat 0)) = D at qr ⊢
      obtain ⟨a1, a2, a3, a4, a5⟩ := qr
      exact ⟨AN.v a5 a1, a2, h.1.2.of a3, ok.of h.2.2.2.2.2.2.1 (a3 10 (by omega)), fun i l hi => a4 i l (by omega)⟩
end ZAH
