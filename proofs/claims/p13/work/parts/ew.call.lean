/-! calls that change something, alike -/
/-- a call: answers alike, worlds alike behind it, the rest of the class left alone -/
noncomputable def CH (L : List Nat) (m : Nat → Nat → Int32) (E : (Int32 ⊕ Nat) × (Nat → Nat → Int32)) (Q : Int32 × (Nat → Int32) × (Nat → Nat → Int32)) : Prop := AN L E.1 (Q.2.2 137 0) Q.1 ∧ RC E.2 1 Q.2.1 ∧ WZ Q.2.1 ∧ TX Q.2.1 ∧ ∀ i l, i = 0 ∨ (85 ≤ i ∧ i ≠ 131) → E.2 i l = m i l
section ZCH
variable {m M : Nat → Nat → Int32} {t x n w v : Int32} {L : List Nat}
theorem CH.no {Y : Int32 ⊕ Nat} {q : Int32} {M' : Nat → Nat → Int32} (h : LR m) (a : AN L Y (M' 137 0) q) : CH L m (Y, m) (q, m 138, M') := ⟨a, h.1.1, h.1.2, h.2.2.2.2.2.2.1, fun _ _ _ => rfl⟩
theorem WZ.lt {W : Nat → Int32} (h : WZ W) : WLT W := ⟨h.W, h.2.1⟩
theorem stepsE_10x {W : Nat → Int32} {mm : Nat → Nat → Int32} {t : Nat} {on : Int32} : (q_stepsE mm W t on).2 10 = W 10 := by
  unfold q_stepsE
  have e : upd (upd W 12 (Int32.ofNat t)) 11 (upd W 12 (Int32.ofNat t) 11 + Int32.ofNat 1) 10 = W 10 := by
    rw [upd_ne _ _ (by omega), upd_ne _ _ (by omega)]
  exact cndi (fun q : Int32 × (Nat → Int32) => q.2 10 = W 10) (cndi (fun q : Int32 × (Nat → Int32) => q.2 10 = W 10) e e) e
theorem steps_10x {W : Nat → Int32} {mm : Nat → Nat → Int32} {t : Nat} (h : KG W t) (ht : t < 4) : (q_steps mm W t).2.1 10 = W 10 := by
  obtain ⟨d24, D1, D2, D3, D4⟩ := h.deed ht
  have d := does_k (mm := zm2 mm 137 5 (Int32.ofNat 0)) (k := 10) (by omega) h ht D3 D4
  have kg := (does_ok (m := zm2 mm 137 5 (Int32.ofNat 0)) (n := nv W (376 + 103 * t + (55 + 2 * nv W (376 + 103 * t + 0) + 1))) h ht (K := nv W (376 + 103 * t + (55 + 2 * nv W (376 + 103 * t + 0)))) (by have := D1.2.2; omega) D3 D4).1
  unfold q_steps
  generalize q_does (zm2 mm 137 5 (Int32.ofNat 0)) W t (nv W (376 + 103 * t + (55 + 2 * nv W (376 + 103 * t + 0)))) (nv W (376 + 103 * t + (55 + 2 * nv W (376 + 103 * t + 0) + 1))) = c at d kg ⊢
  have d' : c.2.1 10 = W 10 := d
  have w := kg.adv ht
  have e1 : upd c.2.1 (376 + 103 * t + 0) (c.2.1 (376 + 103 * t + 0) + Int32.ofNat 1) 10 = W 10 := (upd_ne _ _ (by omega)).trans d'
  refine cndi (fun q : QT => q.2.1 10 = W 10) (stepsE_10x.trans (by rw [d'])) ?_
  generalize upd c.2.1 (376 + 103 * t + 0) (c.2.1 (376 + 103 * t + 0) + Int32.ofNat 1) = V at w e1 ⊢
  unfold q_stepsD
  refine cndi (fun q : QT => q.2.1 10 = W 10) (stepsE_10x.trans (by rw [e1])) (cndi (fun q : QT => q.2.1 10 = W 10) (stepsE_10x.trans ?_) ?_)
  · rw [logs_fr w.C (by omega) (by omega), e1]
  · dsimp only
    rw [stepsE_10x]
    show q_falls V t 2 10 = W 10
    rw [falls_6 w ht (by omega) (by omega), e1]
theorem an_step (h : LR m) (hx : XI m) : CH [0, 4] m (e_step m t) (q_step M (m 138) t) := by
  unfold e_step q_step
  rw [noT h M t]
  cases hs : sOK m t with
  | false => simp only [cnF, zn1, cnT]; exact CH.no h (AN.x 0 rfl rfl)
  | true =>
    obtain ⟨-, ht, ht4⟩ := sOK_n h hs
    simp only [cnT, zne0, cnF]
    revert ht ht4
    generalize t.toNatClampNeg = T
    intro ht ht4
    have g7 : m 1 7 = m 138 11 := h.1.1.globR (k := 11) (o := 0) (s := 7) (by omega) (by omega) rfl
    have e1 : zc2 .lt (m 138 11) (Int32.ofNat 99999) = !(zc2 .ge (m 138 11) (Int32.ofNat 99999)) := by rw [zge_n, Bool.not_not]
    rw [sdone_eq h.1.1 h.1.2.W ht, g7, e1, zne2_n, h.1.2.2.2.e]
    cases hd : zc1 .ne (q_isDone (m 138) T) with
    | true => simp only [cnT]; exact CH.no h (AN.x 1 rfl rfl)
    | false =>
      cases hg : zc2 .ge (m 138 11) (Int32.ofNat 99999) with
      | true => simp only [cnF, Bool.not_true]; exact CH.no h (AN.x 1 rfl rfl)
      | false =>
        simp only [cnF, cnT, Bool.not_false]
        have kg := nd_KG h.1.2.W ht4 hd
        have r0 : RC (zm2 m 131 8 (Int32.ofNat 0)) 1 (m 138) := h.1.1.far (fun i l h1 h2 => zx_ne _ _ _ (by omega))
        have x0 := hx.forget (l := 8) (x := Int32.ofNat 0)
        obtain ⟨s1, s2, s3, s4⟩ := step_ry (mm := zm2 M 137 0 (Int32.ofNat 0)) r0 h.1.2.1 x0.1.1 ht kg.2
        have hd2 : zc1 .ne (x_sDone m 1 T) = false := by rw [sdone_eq h.1.1 h.1.2.W ht]; exact hd
        have hr : KX (zm2 m 131 8 (Int32.ofNat 0)) 1 (fun u => u = T) := (hx.1.2.run ht4 (c1ne0 hd2)).far (by omega)
        have f : FB (x_takeStep (zm2 m 131 8 (Int32.ofNat 0)) 1 T).2 1 (zm2 m 131 8 (Int32.ofNat 0)) := FB.refl.takeStep x0.1.1 hr ht4
        exact ⟨AN.v ((steps_m0 kg ht4).trans rfl) s1, s2, ⟨s3, steps_LT kg ht4, steps_TK kg ht4 h.1.2.2.2 hg⟩, ok.of h.2.2.2.2.2.2.1 (steps_10x kg ht4), fun i l hi => (f i l (by omega)).trans (zx_ne _ _ _ (by omega))⟩
theorem goT_TK {q : Nat} : ∀ (n k : Nat) (W : Nat → Int32) (mm : Nat → Nat → Int32), WG W → LT W → TK W → TK (l_goesT q n k W mm).2.1 := by
  intro n
  induction n with
  | zero => intro k W mm _ _ hT; exact hT
  | succ n ih =>
    intro k W mm h hL hT
    rw [l_goesT]
    refine cndh (fun q : QT => TK q.2.1) (fun _ => hT) (fun hc => cndh (fun q : QT => TK q.2.1) (fun _ => hT) (fun hg => ?_))
    obtain ⟨-, n4, nk⟩ := next_n h hL hc
    have hs := steps_ok (m := mm) nk n4
    exact ih _ _ _ hs.1 (LT_of hs.2 n4) (steps_TK nk n4 hT hg)
theorem drawn_TK {W : Nat → Int32} (h : TK W) : TK (q_drawnOne W).2 := ok.of h (show upd W 13 (W 13 * Int32.ofNat 1103515245 + Int32.ofNat 12345) 11 = W 11 from upd_ne _ _ (by omega))
theorem goD_TK {q : Nat} : ∀ (n k : Nat) (W : Nat → Int32) (mm : Nat → Nat → Int32), WG W → LT W → TK W → TK (l_goesD q n k W mm).2.1 := by
  intro n
  induction n with
  | zero => intro k W mm _ _ hT; exact hT
  | succ n ih =>
    intro k W mm h hL hT
    rw [l_goesD]
    refine cndh (fun q : QT => TK q.2.1) (fun _ => hT) (fun hc => cndh (fun q : QT => TK q.2.1) (fun _ => hT) (fun hg => ?_))
    obtain ⟨-, n4, nk⟩ := drawn_n h hc
    have hs := steps_ok (m := mm) nk n4
    have e11 : (q_drawnOne W).2 11 = W 11 := show upd W 13 (W 13 * Int32.ofNat 1103515245 + Int32.ofNat 12345) 11 = W 11 from upd_ne _ _ (by omega)
    exact ih _ _ _ hs.1 (LT_of hs.2 n4) (steps_TK nk n4 (drawn_TK hT) (by rw [e11]; exact hg))
theorem goT_10 {q : Nat} : ∀ (n k : Nat) (W : Nat → Int32) (mm : Nat → Nat → Int32), WG W → LT W → (l_goesT q n k W mm).2.1 10 = W 10 := by
  intro n
  induction n with
  | zero => intro k W mm _ _; rfl
  | succ n ih =>
    intro k W mm h hL
    rw [l_goesT]
    refine cndh (fun q : QT => q.2.1 10 = W 10) (fun _ => rfl) (fun hc => cndh (fun q : QT => q.2.1 10 = W 10) (fun _ => rfl) (fun hg => ?_))
    obtain ⟨-, n4, nk⟩ := next_n h hL hc
    have hs := steps_ok (m := mm) nk n4
    exact (ih _ _ _ hs.1 (LT_of hs.2 n4)).trans (steps_10x nk n4)
theorem goD_10 {q : Nat} : ∀ (n k : Nat) (W : Nat → Int32) (mm : Nat → Nat → Int32), WG W → LT W → (l_goesD q n k W mm).2.1 10 = W 10 := by
  intro n
  induction n with
  | zero => intro k W mm _ _; rfl
  | succ n ih =>
    intro k W mm h hL
    rw [l_goesD]
    refine cndh (fun q : QT => q.2.1 10 = W 10) (fun _ => rfl) (fun hc => cndh (fun q : QT => q.2.1 10 = W 10) (fun _ => rfl) (fun hg => ?_))
    obtain ⟨-, n4, nk⟩ := drawn_n h hc
    have hs := steps_ok (m := mm) nk n4
    have e10 : (q_drawnOne W).2 10 = W 10 := show upd W 13 (W 13 * Int32.ofNat 1103515245 + Int32.ofNat 12345) 10 = W 10 from upd_ne _ _ (by omega)
    exact ((ih _ _ _ hs.1 (LT_of hs.2 n4)).trans (steps_10x nk n4)).trans e10
theorem in100 (n : Int32) : zc1 .ne (q_in n (Int32.ofNat 1) (Int32.ofNat 100)) = kOK n := by
  rw [in_rg, kOK_rg, zoN (by omega), zoN (by omega)]
  rfl
theorem an_run (h : LR m) (hx : XI m) : CH [2] m (e_run m n) (q_run M (m 138) n) := by
  unfold e_run q_run
  rw [in100]
  cases kOK n with
  | false => simp only [cnF]; exact CH.no h (AN.x 0 rfl rfl)
  | true =>
    simp only [cnT]
    have r0 : RC (zm2 m 131 8 (Int32.ofNat 0)) 1 (m 138) := h.1.1.far (fun i l h1 h2 => zx_ne _ _ _ (by omega))
    have x0 := hx.forget (l := 8) (x := Int32.ofNat 0)
    obtain ⟨s1, s2, s3, s4, s5⟩ := goT_rx (b := 0) (n0 := n.toNatClampNeg) (q := n.toNatClampNeg) n.toNatClampNeg 0 (zm2 m 131 8 (Int32.ofNat 0)) (m 138) (zm2 M 137 0 (Int32.ofNat 0)) r0 h.1.2.1 x0.1.1 h.1.2.2.1
    have g := goTurnL_o (P := zm2 m 131 8 (Int32.ofNat 0)) (n0 := n.toNatClampNeg) n.toNatClampNeg 0 (zm2 m 131 8 (Int32.ofNat 0)) x0.1.1 x0.1.2 FB.refl
    exact ⟨AN.v ((goesT_m0 _ _ _ _ h.1.2.W h.1.2.2.1).trans rfl) s1, s2, ⟨s3, s5, goT_TK _ _ _ _ h.1.2.W h.1.2.2.1 h.1.2.2.2⟩, ok.of h.2.2.2.2.2.2.1 (goT_10 _ _ _ _ h.1.2.W h.1.2.2.1), fun i l hi => (g.2.2 i l (by omega)).trans (zx_ne _ _ _ (by omega))⟩
theorem an_chance (h : LR m) (hx : XI m) : CH [2] m (e_chance m n) (q_chance M (m 138) n) := by
  unfold e_chance q_chance
  rw [in100]
  cases kOK n with
  | false => simp only [cnF]; exact CH.no h (AN.x 0 rfl rfl)
  | true =>
    simp only [cnT]
    have r0 : RC (zm2 m 131 8 (Int32.ofNat 0)) 1 (m 138) := h.1.1.far (fun i l h1 h2 => zx_ne _ _ _ (by omega))
    have x0 := hx.forget (l := 8) (x := Int32.ofNat 0)
    obtain ⟨s1, s2, s3, s4, s5⟩ := goD_rx (n0 := n.toNatClampNeg) (q := n.toNatClampNeg) n.toNatClampNeg 0 (zm2 m 131 8 (Int32.ofNat 0)) (m 138) (zm2 M 137 0 (Int32.ofNat 0)) r0 h.1.2.1 x0.1.1 h.1.2.2.1
    have g := goDrawL_o (P := zm2 m 131 8 (Int32.ofNat 0)) (n0 := n.toNatClampNeg) n.toNatClampNeg 0 (zm2 m 131 8 (Int32.ofNat 0)) x0.1.1 x0.1.2 FB.refl
    exact ⟨AN.v ((goesD_m0 _ _ _ _ h.1.2.W h.1.2.2.1).trans rfl) s1, s2, ⟨s3, s5, goD_TK _ _ _ _ h.1.2.W h.1.2.2.1 h.1.2.2.2⟩, ok.of h.2.2.2.2.2.2.1 (goD_10 _ _ _ _ h.1.2.W h.1.2.2.1), fun i l hi => (g.2.2 i l (by omega)).trans (zx_ne _ _ _ (by omega))⟩
theorem clearsL_k {W0 : Nat → Int32} {tt s : Int32} {n9 j : Nat} (hj : j < 15) (hn : n9 ≤ 4) : ∀ (n k : Nat) (W : Nat → Int32), k + n = n9 → WG W → (l_clears tt s n9 n k W).2 j = W j := by
  intro n
  induction n with
  | zero => intro k W _ _; rfl
  | succ n ih =>
    intro k W hk h
    rw [l_clears]
    exact cndi (fun q : Int32 × (Nat → Int32) => q.2 j = W j) (ih _ _ (by omega) h) ((ih _ _ (by omega) (h.falls (by omega) (by omega))).trans (falls_6 h (by omega) (by omega) hj))
theorem writesX_11 {W : Nat → Int32} {u : Nat} {y : Int32} (h : WG W) : (q_writesX W u y).2 11 = W 11 := by
  unfold q_writesX
  have a : ∀ s, (q_clearsX W s).2 11 = W 11 := fun s => clearsL_k (W0 := W) (by omega) h.N4 _ _ _ (by omega) h
  exact cndi (fun q : Int32 × (Nat → Int32) => q.2 11 = W 11) ((upd_ne _ _ (by omega)).trans (a _)) (a _)
theorem writesX_10 {W : Nat → Int32} {u : Nat} {y : Int32} (h : WG W) : (q_writesX W u y).2 10 = W 10 := by
  unfold q_writesX
  have a : ∀ s, (q_clearsX W s).2 10 = W 10 := fun s => clearsL_k (W0 := W) (by omega) h.N4 _ _ _ (by omega) h
  exact cndi (fun q : Int32 × (Nat → Int32) => q.2 10 = W 10) ((upd_ne _ _ (by omega)).trans (a _)) (a _)
theorem an_poke (h : LR m) (hx : XI m) : CH [0, 2] m (e_poke m w v) (q_poke M (m 138) w v) := by
  have e1 : zc1 .ne (q_in w (Int32.ofNat 0) (Int32.ofNat 31)) = wOK w := by
    rw [in_rg, wOK_rg, zoN (by omega), zoN (by omega)]
    rfl
  unfold e_poke q_poke
  rw [e1, in_rg, zoN (by omega), zoN (by omega)]
  cases hw : wOK w with
  | false => simp only [cnF]; exact CH.no h (AN.x 0 rfl rfl)
  | true =>
    rw [wOK_rg] at hw
    obtain ⟨-, hn⟩ := rg_n hw
    simp only [cnT]
    cases hv : rg v ((0 : Nat) : Int) (((9999 : Nat) : Int) + 1) with
    | false =>
      simp only [cnF]
      rcases rg_F (x := Int32.ofNat 10000) (by rw [zoN (by omega)]; exact hv) with r | ⟨r1, r2, -⟩
      · rw [r, cnT]; exact CH.no h (AN.x 1 rfl rfl)
      · rw [r1, cnF, r2, cnF]; exact CH.no h (AN.x 1 rfl rfl)
    | true =>
      obtain ⟨ev, hV⟩ := rg_n (n := 10000) hv
      obtain ⟨r1, r2, -⟩ := rg_T (x := Int32.ofNat 10000) (by rw [zoN (by omega)]; exact hv)
      rw [r1, cnF, r2, cnT, cnT]
      have hx1 : vx v := ⟨_, by omega, ev⟩
      have hm1 : ¬ v = -1 := fun e => by
        have a := (of_decide_eq_true hv).1
        rw [e] at a
        exact absurd a (by decide)
      have r0 : RC (zm2 m 131 8 (Int32.ofNat 0)) 1 (m 138) := h.1.1.far (fun i l h1 h2 => zx_ne _ _ _ (by omega))
      have x0 := hx.forget (l := 8) (x := Int32.ofNat 0)
      obtain ⟨p1, p2, p3⟩ := poke_rx (w := w.toNatClampNeg) r0 h.1.2.1 x0.1.1 (by omega) hm1 hx1
      have g := reachX_ok (P := zm2 m 131 8 (Int32.ofNat 0)) (w := w.toNatClampNeg) (v := v) x0.1.1 x0.1.2 FB.refl
      exact ⟨AN.v rfl (h.1.1.globR (by omega) (by omega) (cm_w (by omega))), p1, ⟨p2, LT_eq h.1.2.2.1 (writesX_12 h.1.2.W), ok.of h.1.2.2.2 (writesX_11 h.1.2.W)⟩, ok.of h.2.2.2.2.2.2.1 (writesX_10 h.1.2.W), fun i l hi => (g.2.2 i l (by omega)).trans (zx_ne _ _ _ (by omega))⟩
theorem zla_8 : ∀ K, 1 ≤ K → K ≤ 8 → (zla 0).getD K 0 = q_leastOf K ∧ (zla 1).getD K 0 = q_mostOf K ∧ q_leastOf K = Int32.ofNat (trl K) ∧ q_mostOf K = Int32.ofNat (trh K) := by
  intro K h1 h8
  by_cases e : K = 8
  · subst e; exact ⟨rfl, rfl, rfl, rfl⟩
  · exact zla_t K h1 (by omega)
theorem btw_rg {y a b : Int32} : (!zc2 .lt y a && zc2 .le y b) = rg y a.toInt (b.toInt + 1) := by
  have e1 : zc2 .lt y a = decide (y < a) := rfl
  have e2 : zc2 .le y b = decide (y ≤ b) := rfl
  unfold rg
  rw [e1, e2, Bool.decide_and]
  congr 1
  · rw [← decide_not]
    refine decide_eq_decide.mpr ?_
    rw [Int32.lt_iff_toInt_lt]
    omega
  · refine decide_eq_decide.mpr ?_
    rw [Int32.le_iff_toInt_le]
    omega
theorem btw_c {α : Type} {y a b : Int32} (A B : α) : (bif zc2 .lt y a then B else bif zc2 .le y b then A else B) = bif rg y a.toInt (b.toInt + 1) then A else B := by
  rw [← btw_rg]
  cases zc2 .lt y a <;> cases zc2 .le y b <;> rfl
theorem an_tune (h : LR m) : CH [1, 2] m (e_tune m x n) (q_tune M (m 138) x n) := by
  unfold e_tune q_tune
  rw [in_rg, in_rg, btw_c, btw_c]
  cases hx : rg x (Int32.ofNat 1).toInt ((Int32.ofNat 8).toInt + 1) with
  | false => simp only [cnF]; exact CH.no h (AN.x 0 rfl rfl)
  | true =>
    have q := of_decide_eq_true hx
    rw [zoN (by omega), zoN (by omega)] at q
    obtain ⟨a, b⟩ := nat_ge (x := x) (by omega)
    obtain ⟨z1, z2, z3, z4⟩ := zla_8 x.toNatClampNeg (by omega) (by omega)
    simp only [cnT]
    rw [z1, z2]
    cases hn : rg n (q_leastOf x.toNatClampNeg).toInt ((q_mostOf x.toNatClampNeg).toInt + 1) with
    | false => simp only [cnF]; exact CH.no h (AN.x 1 rfl rfl)
    | true =>
      have hb := trh_16 x.toNatClampNeg (by omega)
      have hb2 : trl x.toNatClampNeg ≤ 16 := by
        have : ∀ k, k < 9 → trl k ≤ 16 := by decide
        exact this _ (by omega)
      have p := of_decide_eq_true hn
      rw [z3, z4, zoN (by omega), zoN (by omega)] at p
      obtain ⟨c, d⟩ := nat_ge (x := n) (by omega)
      simp only [cnT]
      refine ⟨AN.v rfl (h.1.1.globR (by omega) (by omega) (cm_3 (by omega))), h.1.1.globS h.1.2.W.C (by omega) (by omega) (by omega) (cm_3 (by omega)), ?_, ok.of h.2.2.2.2.2.2.1 (upd_ne _ _ (by omega)), fun i l hi => zx_ne _ _ _ (by omega)⟩
      show WZ (upd (m 138) x.toNatClampNeg n)
      rw [c]
      exact h.1.2.term (by omega) (by omega) (by omega)
theorem an_seed (h : LR m) : (e_seed m n).1 = (q_seed M (m 138) n).1 ∧ RC (e_seed m n).2 1 (q_seed M (m 138) n).2.1 ∧ WZ (q_seed M (m 138) n).2.1 ∧ TX (q_seed M (m 138) n).2.1 ∧ ∀ i l, i = 0 ∨ (85 ≤ i ∧ i ≠ 131) → (e_seed m n).2 i l = m i l := ⟨h.1.1.globR (k := 13) (o := 0) (s := 9) (by omega) (by omega) rfl, h.1.1.globS (k := 13) (o := 0) (s := 9) h.1.2.W.C (by omega) (by omega) (by omega) rfl, h.1.2.gen (by omega) (h.1.2.W.put _ (fre_lo (by omega) (by omega))) (by omega) (by omega) (by omega), ok.of h.2.2.2.2.2.2.1 (show upd (m 138) 13 n 10 = m 138 10 from upd_ne _ _ (by omega)), fun i l hi => zx_ne _ _ _ (by omega)⟩
theorem an_back (h : LR m) (hx : XI m) (h4 : M 137 4 = m 137 4) (h9 : M 139 = m 139) : (e_back m).1 = (q_back M (m 138)).1 ∧ RC (e_back m).2 1 (q_back M (m 138)).2.1 ∧ WZ (q_back M (m 138)).2.1 ∧ TX (q_back M (m 138)).2.1 ∧ ∀ i l, i = 0 ∨ (85 ≤ i ∧ i ≠ 131) → (e_back m).2 i l = m i l := by
  unfold e_back q_back
  rw [zx_nk _ _ (by decide), h4, h.2.2.1, show zm2 M 137 0 (Int32.ofNat 0) 139 = m 139 from (funext (fun l => zx_ne _ _ _ (by decide))).trans h9]
  cases hc : zc1 .ne (m 137 4) with
  | false => exact ⟨rfl, h.1.1, h.1.2, h.2.2.2.2.2.2.1, fun _ _ _ => rfl⟩
  | true =>
    have h5 : ¬ m 137 4 = 0 := of_decide_eq_true hc
    have hw : RC m 85 (m 139) ∧ WZ (m 139) := by
      rcases h.2.1 with e | e
      · exact absurd e h5
      · exact e
    have hx9 : TX (m 139) := by
      rcases h.2.2.2.2.2.2.2 with e | e
      · exact absurd e h5
      · exact e
    have e : ∀ k, k < 788 → crow (m 139) (m 138) k = m 139 k := crow_of _ _
    have f : FB (x_copyFrom m 1 85) 1 m := FB.copy (Or.inl (by omega)) hx.2.2.1.1 FB.refl
    exact ⟨rfl, ((hw.1.copy (b := 1) hw.2.W (Or.inl (by omega)) hx.2.2.1.1).far (fun i l h1 h2 => zx_ne _ _ _ (by omega))).of hw.2.W e, hw.2.of e, ok.of hx9 (e 10 (by omega)), fun i l hi => (zx_ne _ _ _ (by omega)).trans (f i l (by omega))⟩
end ZCH
