/-! ticks ahead alike: due, plain, quickest; worlds alike below 788 -/
theorem RC.of {m : Nat → Nat → Int32} {b : Nat} {W V : Nat → Int32} (h : RC m b W) (hw : WG W) (e : ∀ k, k < 788 → V k = W k) : RC m b V := by
  have hC := hw.C.2
  obtain ⟨⟨h1, h2⟩, h3⟩ := h
  have n : ∀ k, k < 788 → nv V k = nv W k := fun k hk => nv_of (e k hk)
  refine ⟨⟨h1.trans (e 15 (by omega)).symm, fun a c ha hc => ?_⟩, fun k hk => ?_⟩
  · rw [n 15 (by omega)] at ha ⊢
    rw [e _ (by omega)]
    exact h2 a c ha hc
  · obtain ⟨k1, k2, k3⟩ := hk
    rw [e k k1]
    refine h3 k ⟨k1, k2, ?_⟩
    rcases k3 with k3 | ⟨k3, a1, a2, a3, a4, a5⟩
    · exact Or.inl k3
    · refine Or.inr ⟨k3, ?_, fun q => ?_, fun q => ?_, fun q => ?_, fun q => ?_⟩
      · rw [← n 9 (by omega)]; exact a1
      · rw [← n _ (by omega)]; exact a2 q
      · rw [← e _ (by omega)]; exact a3 q
      · rw [← e _ (by omega)]; exact a4 q
      · rw [← n _ (by omega)]; exact a5 q
theorem WX.of {W V : Nat → Int32} (h : WX W) (e : ∀ k, k < 788 → V k = W k) : WX V := WX.mk (WG_of h.W e) (h.1.2.2.2.of (fun k hk => e k (by omega))) (h.2.1.of (e _ (by omega))) (h.2.2.1.of (e _ (by omega))) (fun t ht => (h.T ht).of h.W ht (fun c hc _ => e _ (by omega)))
theorem SB.of {W V : Nat → Int32} (h : SB W) (e : ∀ k, k < 788 → V k = W k) : SB V := fun k hk => (h k hk).of (e k (by rcases hk with hk | ⟨t, c, ht, rfl, hc⟩ <;> omega))
theorem WY.of {W V : Nat → Int32} (h : WY W) (e : ∀ k, k < 788 → V k = W k) : WY V := ⟨h.1.of e, h.2.of e⟩
/-- a world of the law: in order, its last thread, its ticks -/
noncomputable def WZ (W : Nat → Int32) : Prop := WY W ∧ LT W ∧ TK W
theorem WZ.of {W V : Nat → Int32} (h : WZ W) (e : ∀ k, k < 788 → V k = W k) : WZ V := ⟨h.1.of e, LT_eq h.2.1 (e 12 (by omega)), ok.of h.2.2 (e 11 (by omega))⟩
theorem goes1 {mm : Nat → Nat → Int32} {W : Nat → Int32} : q_goesT mm W 1 = (bif zc1 .ne (q_areAllDone W) then (Int32.ofNat 0, W, mm) else bif zc2 .ge (W 11) (Int32.ofNat 99999) then (Int32.ofNat 0, W, mm) else (Int32.ofNat 1, (q_steps mm W (nxn W)).2.1, (q_steps mm W (nxn W)).2.2)) := by
  unfold q_goesT
  rw [l_goesT, l_goesT]
theorem TK.e {W : Nat → Int32} (h : TK W) : zc2 .eq (W 11) (Int32.ofNat 99999) = zc2 .ge (W 11) (Int32.ofNat 99999) := by
  have h2 : nv W 11 ≤ 99999 := h.2.2
  rw [h.1]
  by_cases q : nv W 11 = 99999
  · rw [q]; decide
  · rw [zcge_f (by omega) (by omega) (by omega)]
    refine decide_eq_false (fun e => q ?_)
    have := congrArg Int32.toInt e
    rw [zoN (by omega), zoN (by omega)] at this
    omega
/-- an answer within a bound -/
noncomputable def bnd (n0 : Nat) (D : Int32) : Int32 := bif zc2 .le D (Int32.ofNat n0) then D else -1
theorem zcle {a b : Nat} (ha : a < 2147483648) (hb : b < 2147483648) (h : a ≤ b) : zc2 .le (Int32.ofNat a) (Int32.ofNat b) = true := by
  refine decide_eq_true ?_
  rw [Int32.le_iff_toInt_le, zoN ha, zoN hb]
  omega
theorem zcle_f {a b : Nat} (ha : a < 2147483648) (hb : b < 2147483648) (h : b < a) : zc2 .le (Int32.ofNat a) (Int32.ofNat b) = false := by
  refine decide_eq_false ?_
  rw [Int32.le_iff_toInt_le, zoN ha, zoN hb]
  omega
theorem bnd_m {n0 : Nat} : bnd n0 (-1) = -1 := by
  unfold bnd
  cases zc2 .le (-1) (Int32.ofNat n0) <;> rfl
theorem bnd_i {n0 i : Nat} (h : i ≤ n0) (hn : n0 ≤ 400) : bnd n0 (Int32.ofNat i) = Int32.ofNat i := by
  unfold bnd
  rw [zcle (by omega) (by omega) h]
  rfl
theorem bnd_o {n0 i : Nat} (h : n0 < i) (hn : i ≤ 400) : bnd n0 (Int32.ofNat i) = -1 := by
  unfold bnd
  rw [zcle_f (by omega) (by omega) h]
  rfl
noncomputable def DU (k : Nat) (D : Int32) : Prop := D = -1 ∨ ∃ i, k ≤ i ∧ i ≤ 400 ∧ D = Int32.ofNat i
theorem DU.up {k : Nat} {D : Int32} (h : DU (k + 1) D) : DU k D := by
  rcases h with h | ⟨i, h1, h2, h3⟩
  · exact Or.inl h
  · exact Or.inr ⟨i, by omega, h2, h3⟩
theorem DU.bo {k n0 : Nat} {D : Int32} (h : DU k D) (hk : n0 < k) : bnd n0 D = -1 := by
  rcases h with h | ⟨i, h1, h2, h3⟩
  · rw [h]; exact bnd_m
  · rw [h3]; exact bnd_o (by omega) h2
theorem stepsE_9x {W : Nat → Int32} {mm : Nat → Nat → Int32} {t : Nat} {on : Int32} : (q_stepsE mm W t on).2 9 = W 9 := by
  unfold q_stepsE
  have e : upd (upd W 12 (Int32.ofNat t)) 11 (upd W 12 (Int32.ofNat t) 11 + Int32.ofNat 1) 9 = W 9 := by
    rw [upd_ne _ _ (by omega), upd_ne _ _ (by omega)]
  exact cndi (fun q : Int32 × (Nat → Int32) => q.2 9 = W 9) (cndi (fun q : Int32 × (Nat → Int32) => q.2 9 = W 9) e e) e
theorem steps_9x {W : Nat → Int32} {mm : Nat → Nat → Int32} {t : Nat} (h : KG W t) (ht : t < 4) : (q_steps mm W t).2.1 9 = W 9 := by
  obtain ⟨d24, D1, D2, D3, D4⟩ := h.deed ht
  have d := does_k (mm := zm2 mm 137 5 (Int32.ofNat 0)) (k := 9) (by omega) h ht D3 D4
  have kg := (does_ok (m := zm2 mm 137 5 (Int32.ofNat 0)) (n := nv W (376 + 103 * t + (55 + 2 * nv W (376 + 103 * t + 0) + 1))) h ht (K := nv W (376 + 103 * t + (55 + 2 * nv W (376 + 103 * t + 0)))) (by have := D1.2.2; omega) D3 D4).1
  unfold q_steps
  generalize q_does (zm2 mm 137 5 (Int32.ofNat 0)) W t (nv W (376 + 103 * t + (55 + 2 * nv W (376 + 103 * t + 0)))) (nv W (376 + 103 * t + (55 + 2 * nv W (376 + 103 * t + 0) + 1))) = c at d kg ⊢
  have d' : c.2.1 9 = W 9 := d
  have w := kg.adv ht
  have e1 : upd c.2.1 (376 + 103 * t + 0) (c.2.1 (376 + 103 * t + 0) + Int32.ofNat 1) 9 = W 9 := (upd_ne _ _ (by omega)).trans d'
  refine cndi (fun q : QT => q.2.1 9 = W 9) (stepsE_9x.trans (by rw [d'])) ?_
  generalize upd c.2.1 (376 + 103 * t + 0) (c.2.1 (376 + 103 * t + 0) + Int32.ofNat 1) = V at w e1 ⊢
  unfold q_stepsD
  refine cndi (fun q : QT => q.2.1 9 = W 9) (stepsE_9x.trans (by rw [e1])) (cndi (fun q : QT => q.2.1 9 = W 9) (stepsE_9x.trans ?_) ?_)
  · rw [logs_fr w.C (by omega) (by omega), e1]
  · dsimp only
    rw [stepsE_9x]
    show q_falls V t 2 9 = W 9
    rw [falls_6 w ht (by omega) (by omega), e1]
theorem dueT_lo {t : Nat} : ∀ (n k : Nat) (W : Nat → Int32) (mm : Nat → Nat → Int32), k + n = 401 → DU k (l_dueOf t n k W mm).1 := by
  intro n
  induction n with
  | zero => intro k W mm _; exact Or.inl rfl
  | succ n ih =>
    intro k W mm hk
    unfold l_dueOf
    refine cndi (fun q : Int32 × (Nat → Int32) × (Nat → Nat → Int32) => DU k q.1) (cndi (fun q : Int32 × (Nat → Int32) × (Nat → Nat → Int32) => DU k q.1) (ih _ _ _ (by omega)).up (cndi (fun q : Int32 × (Nat → Int32) × (Nat → Nat → Int32) => DU k q.1) (Or.inl rfl) (cndi (fun q : Int32 × (Nat → Int32) × (Nat → Nat → Int32) => DU k q.1) (ih _ _ _ (by omega)).up (Or.inl rfl)))) (Or.inr ⟨k, by omega, by omega, rfl⟩)
theorem taT_rx {t : Nat} {x : Int32} {n0 : Nat} (hn0 : n0 ≤ 400) : ∀ (n k j : Nat) (m : Nat → Nat → Int32) (W : Nat → Int32) (mm : Nat → Nat → Int32), k + n = n0 → n0 + 1 + j = 401 → RC m 43 W → CG m 43 → WZ W → t < nv W 9 → (xl_taTL t x n0 n k m).1 = bnd n0 (l_dueOf t (n + 1 + j) k W mm).1 := by
  intro n
  induction n with
  | zero =>
    intro k j m W mm hk hj h hc hz ht
    obtain rfl : k = n0 := by omega
    have ed : x_mDoneT m 43 t = q_isDone W t := sdone_eq h hz.1.1.W ht
    have lo : DU (k + 1) (l_dueOf t j (k + 1) W mm).1 := dueT_lo j (k + 1) W mm (by omega)
    have lo2 := dueT_lo (t := t) j (k + 1) (q_goesT mm W 1).2.1 (q_goesT mm W 1).2.2 (by omega)
    rw [show 0 + 1 + j = j + 1 by omega, xl_taTL, l_dueOf, ed]
    cases zc1 .eq (q_isDone W t) with
    | false =>
      simp only [cnF]
      exact (bnd_i (Nat.le_refl _) hn0).symm
    | true =>
      simp only [cnT]
      have g : ∀ q : Int32 × (Nat → Int32) × (Nat → Nat → Int32), DU (k + 1) q.1 → (-1 : Int32) = bnd k q.1 := fun q hq => (hq.bo (by omega)).symm
      exact g _ (cndi (fun q : Int32 × (Nat → Int32) × (Nat → Nat → Int32) => DU (k + 1) q.1) lo (cndi (fun q : Int32 × (Nat → Int32) × (Nat → Nat → Int32) => DU (k + 1) q.1) (Or.inl rfl) (cndi (fun q : Int32 × (Nat → Int32) × (Nat → Nat → Int32) => DU (k + 1) q.1) lo2 (Or.inl rfl))))
  | succ n ih =>
    intro k j m W mm hk hj h hc hz ht
    have ed : x_mDoneT m 43 t = q_isDone W t := sdone_eq h hz.1.1.W ht
    have g7 : m 43 7 = W 11 := h.glob (k := 11) (by omega) (by omega)
    have e : (x_nextByTurn m 43).toNatClampNeg = nxn W := by rw [next_eq h hz.1.1.W]; rfl
    have hge : zc2 .ge (Int32.ofNat k) (Int32.ofNat 400) = false := zcge_f (by omega) (by omega) (by omega)
    have hl : zc2 .lt (W 11) (Int32.ofNat 99999) = !(zc2 .ge (W 11) (Int32.ofNat 99999)) := by rw [zge_n, Bool.not_not]
    rw [show n + 1 + 1 + j = (n + 1 + j) + 1 by omega, xl_taTL, l_dueOf, ed, g7, e, next_eq h hz.1.1.W, all_next hz.1.1.W hz.2.1, hge, goes1, hz.2.2.e, hl]
    cases zc1 .eq (q_isDone W t) with
    | false =>
      simp only [cnF]
      exact (bnd_i (by omega) hn0).symm
    | true =>
      cases hd : zc1 .ne (q_areAllDone W) with
      | true =>
        cases zc2 .ge (W 11) (Int32.ofNat 99999) <;> simp only [cnT, cnF, zne0] <;> exact bnd_m.symm
      | false =>
        cases h9 : zc2 .ge (W 11) (Int32.ofNat 99999) with
        | true => simp only [cnT, cnF, Bool.not_true]; exact bnd_m.symm
        | false =>
          simp only [cnT, cnF, zn1, Bool.not_false]
          obtain ⟨v1, v2⟩ := next_nine hz.1.1.W hz.2.1 hd
          have h4 := hz.1.1.W.N4
          obtain ⟨-, s2, s3, s4⟩ := step_ry (mm := mm) h hz.1 hc v1 v2
          have s9 : nv (q_steps mm W (nxn W)).2.1 9 = nv W 9 := nv_of (steps_9x ⟨hz.1.1.W, v2⟩ (by omega))
          exact ih (k + 1) j _ _ _ (by omega) hj s2 s4 ⟨s3, steps_LT ⟨hz.1.1.W, v2⟩ (by omega), steps_TK ⟨hz.1.1.W, v2⟩ (by omega) hz.2.2 h9⟩ (by rw [s9]; exact ht)
theorem dueX_lo : ∀ (n k : Nat) (W : Nat → Int32) (mm : Nat → Nat → Int32), k + n = 401 → DU k (l_dueOfX n k W mm).1 := by
  intro n
  induction n with
  | zero => intro k W mm _; exact Or.inl rfl
  | succ n ih =>
    intro k W mm hk
    unfold l_dueOfX
    refine cndi (fun q : Int32 × (Nat → Int32) × (Nat → Nat → Int32) => DU k q.1) (cndi (fun q : Int32 × (Nat → Int32) × (Nat → Nat → Int32) => DU k q.1) (ih _ _ _ (by omega)).up (cndi (fun q : Int32 × (Nat → Int32) × (Nat → Nat → Int32) => DU k q.1) (Or.inl rfl) (cndi (fun q : Int32 × (Nat → Int32) × (Nat → Nat → Int32) => DU k q.1) (ih _ _ _ (by omega)).up (Or.inl rfl)))) (Or.inr ⟨k, by omega, by omega, rfl⟩)
theorem taX_rx {x : Int32} {n0 : Nat} (hn0 : n0 ≤ 400) : ∀ (n k j : Nat) (m : Nat → Nat → Int32) (W : Nat → Int32) (mm : Nat → Nat → Int32), k + n = n0 → n0 + 1 + j = 401 → RC m 43 W → CG m 43 → WZ W → (xl_taXL x n0 n k m).1 = bnd n0 (l_dueOfX (n + 1 + j) k W mm).1 := by
  intro n
  induction n with
  | zero =>
    intro k j m W mm hk hj h hc hz
    obtain rfl : k = n0 := by omega
    have ed : zc1 .eq (x_mDoneX m 43) = zc1 .eq (q_areAllDone W) := by
      unfold x_mDoneX
      rw [next_eq h hz.1.1.W, zne2_n, all_next hz.1.1.W hz.2.1, zne_n]
      cases zc1 .eq (q_areAllDone W) <;> rfl
    have lo : DU (k + 1) (l_dueOfX j (k + 1) W mm).1 := dueX_lo j (k + 1) W mm (by omega)
    have lo2 := dueX_lo j (k + 1) (q_goesT mm W 1).2.1 (q_goesT mm W 1).2.2 (by omega)
    rw [show 0 + 1 + j = j + 1 by omega, xl_taXL, l_dueOfX, ed]
    cases zc1 .eq (q_areAllDone W) with
    | false =>
      simp only [cnF]
      exact (bnd_i (Nat.le_refl _) hn0).symm
    | true =>
      simp only [cnT]
      have g : ∀ q : Int32 × (Nat → Int32) × (Nat → Nat → Int32), DU (k + 1) q.1 → (-1 : Int32) = bnd k q.1 := fun q hq => (hq.bo (by omega)).symm
      exact g _ (cndi (fun q : Int32 × (Nat → Int32) × (Nat → Nat → Int32) => DU (k + 1) q.1) lo (cndi (fun q : Int32 × (Nat → Int32) × (Nat → Nat → Int32) => DU (k + 1) q.1) (Or.inl rfl) (cndi (fun q : Int32 × (Nat → Int32) × (Nat → Nat → Int32) => DU (k + 1) q.1) lo2 (Or.inl rfl))))
  | succ n ih =>
    intro k j m W mm hk hj h hc hz
    have ed : zc1 .eq (x_mDoneX m 43) = zc1 .eq (q_areAllDone W) := by
      unfold x_mDoneX
      rw [next_eq h hz.1.1.W, zne2_n, all_next hz.1.1.W hz.2.1, zne_n]
      cases zc1 .eq (q_areAllDone W) <;> rfl
    have g7 : m 43 7 = W 11 := h.glob (k := 11) (by omega) (by omega)
    have e : (x_nextByTurn m 43).toNatClampNeg = nxn W := by rw [next_eq h hz.1.1.W]; rfl
    have hge : zc2 .ge (Int32.ofNat k) (Int32.ofNat 400) = false := zcge_f (by omega) (by omega) (by omega)
    have hl : zc2 .lt (W 11) (Int32.ofNat 99999) = !(zc2 .ge (W 11) (Int32.ofNat 99999)) := by rw [zge_n, Bool.not_not]
    rw [show n + 1 + 1 + j = (n + 1 + j) + 1 by omega, xl_taXL, l_dueOfX, ed, g7, e, next_eq h hz.1.1.W, all_next hz.1.1.W hz.2.1, hge, goes1, hz.2.2.e, hl]
    cases zc1 .eq (q_areAllDone W) with
    | false =>
      simp only [cnF]
      exact (bnd_i (by omega) hn0).symm
    | true =>
      cases hd : zc1 .ne (q_areAllDone W) with
      | true =>
        cases zc2 .ge (W 11) (Int32.ofNat 99999) <;> simp only [cnT, cnF, zne0] <;> exact bnd_m.symm
      | false =>
        cases h9 : zc2 .ge (W 11) (Int32.ofNat 99999) with
        | true => simp only [cnT, cnF, Bool.not_true]; exact bnd_m.symm
        | false =>
          simp only [cnT, cnF, zn1, Bool.not_false]
          obtain ⟨v1, v2⟩ := next_nine hz.1.1.W hz.2.1 hd
          have h4 := hz.1.1.W.N4
          obtain ⟨-, s2, s3, s4⟩ := step_ry (mm := mm) h hz.1 hc v1 v2
          have s9 : nv (q_steps mm W (nxn W)).2.1 9 = nv W 9 := nv_of (steps_9x ⟨hz.1.1.W, v2⟩ (by omega))
          exact ih (k + 1) j _ _ _ (by omega) hj s2 s4 ⟨s3, steps_LT ⟨hz.1.1.W, v2⟩ (by omega), steps_TK ⟨hz.1.1.W, v2⟩ (by omega) hz.2.2 h9⟩ 
