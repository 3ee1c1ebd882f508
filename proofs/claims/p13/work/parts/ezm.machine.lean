/-! a text that is told, alike -/
section ZMC
variable {m M : Nat → Nat → Int32} {N b : Nat}
/-- the class behind its reading -/
theorem xM3_e : xM3 m N 0 6 = (yRA (x_copyFrom m 43 1) N).1 ∧ (∀ i l, 43 ≤ i → i < 85 → xM3 m N i l = (yRA (x_copyFrom m 43 1) N).2.1 i l) := by
  refine ⟨?_, fun i l h1 h2 => ?_⟩
  · unfold xM3
    rw [zx_nk _ _ (by decide), zx_at]
    rfl
  · unfold xM3
    rw [zx_ne _ _ _ (by omega), zx_ne _ _ _ (by omega)]
    unfold x_readAll
    show XP (yRA (x_copyFrom m 43 1) N).2.1 (yRA (x_copyFrom m 43 1) N).2.2.1 (yRA (x_copyFrom m 43 1) N).2.2.2 i l = _
    exact congrFun (if_neg (by omega)) l
noncomputable def mcE (P : Nat → Nat → Int32) : (Int32 ⊕ Nat) × (Nat → Nat → Int32) := bif zc2 .eq (P 0 6) (-1) then (bif zc2 .lt (P 1 6) (Int32.ofNat 12) then (.inl (zm2 (zm2 (x_copyFrom P 1 43) 1 6 (x_copyFrom P 1 43 1 6 + Int32.ofNat 1)) 131 8 (Int32.ofNat 0) 1 6), zm2 (zm2 (x_copyFrom P 1 43) 1 6 (x_copyFrom P 1 43 1 6 + Int32.ofNat 1)) 131 8 (Int32.ofNat 0)) else (.inr 3, P)) else (.inr 2, P)
theorem mcE_e : e_machine m N b = mcE (xM3 m N) := rfl
/-- what the two sides have in common behind a reading -/
theorem read_rx (h : LR m) (hx : XI m) (hN : m 0 5 = Int32.ofNat N) (n4 : N ≤ 400) (g7 : M 137 7 = m 137 7) (g141 : M 141 = m 141) : TLA (yRA (x_copyFrom m 43 1) N) (q_readText (mM M (m 138)) (m 138) 0) ∧ (q_readText (mM M (m 138)) (m 138) 0).2.2.2 ≤ 400 ∧ (q_readText (mM M (m 138)) (m 138) 0).2.1 10 = m 138 10 := by
  have e7 : M 137 7 = Int32.ofNat N := g7.trans (h.2.2.2.1.symm.trans hN)
  obtain ⟨g1, g2⟩ := mM_G (W := m 138) e7 n4
  have f : FB (x_copyFrom m 43 1) 43 m := FB.copy (Or.inr (by omega)) hx.1.1 FB.refl
  have pa : PA (x_copyFrom m 43 1 127) N (mM M (m 138)) := by
    refine ⟨g2, n4, fun p hp => ?_⟩
    rw [f 127 p (by omega), h.2.2.2.2.1 p (by unfold mv; rw [← g7, e7, nv_on (by omega)]; exact hp)]
    have e : mM M (m 138) 141 = M 141 := by
      unfold mM
      rw [zrow_ne (by omega), zm2_i _ _ (by omega), zm2_i _ _ (by omega), zm2_i _ _ (by omega), zm2_i _ _ (by omega)]
    rw [e, g141]
  have rc : RC (xR0 (x_copyFrom m 43 1) N) 43 (m 138) := by
    refine (h.1.1.copy (b := 43) h.1.2.W (Or.inr (by omega)) hx.1.1).far (fun i l h1 h2 => ?_)
    unfold xR0
    rw [zx_ne _ _ _ (by omega), zx_ne _ _ _ (by omega)]
  refine ⟨readAll_rx pa g1 ⟨rc, h.1.2⟩, ?_, (readText_10 (m := mM M (m 138)) (p := 0) rfl)⟩
  have rt := (readText_WG (W := m 138) (p := 0) g1 (Nat.zero_le _) h.1.2.W).1
  unfold RB at rt
  rw [g2] at rt
  omega
theorem LR.told {m2 : Nat → Nat → Int32} (h : LR m) (r : RC m2 1 (m2 138)) (z : WZ (m2 138)) (x : TX (m2 138)) (e : ∀ i l, (85 ≤ i ∧ i < 127) ∨ (i = 0 ∧ l = 3) ∨ (i = 137 ∧ l = 4) ∨ i = 139 → m2 i l = m i l) (z5 : m2 0 5 = Int32.ofNat 0) (z7 : m2 137 7 = Int32.ofNat 0) (f6 : m2 0 6 = m2 137 11) : LR m2 := by
  have r9 : m2 139 = m 139 := funext (fun l => e 139 l (by omega))
  obtain ⟨-, a3, a4, -, -, -, -, a9⟩ := h
  refine ⟨⟨r, z⟩, ?_, ?_, z5.trans z7.symm, fun k hk => ?_, f6, x, ?_⟩
  · rw [r9, e 137 4 (by omega)]
    rcases a3 with a3 | ⟨a3, b3⟩
    · exact Or.inl a3
    · exact Or.inr ⟨a3.far (fun i l h1 h2 => e i l (by omega)), b3⟩
  · rw [e 0 3 (by omega), e 137 4 (by omega)]; exact a4
  · unfold mv at hk
    rw [z7] at hk
    exact absurd hk (Nat.not_lt_zero _)
  · rw [r9, e 137 4 (by omega)]; exact a9
/-- the reference's memory as its reading ends -/
noncomputable def RR (M R : Nat → Nat → Int32) (W : Nat → Int32) (c : Nat) : Prop := (∀ i l, i ≠ 137 → i ≠ 140 → R i l = M i l) ∧ R 137 4 = M 137 4 ∧ R 137 7 = Int32.ofNat 0 ∧ R 137 10 = Int32.ofNat c ∧ (∀ k, k < 788 → R 140 k = W k) ∧ R 137 0 = Int32.ofNat 0
theorem RR_of {W : Nat → Int32} {p c : Nat} : RR M (TP (mM M W) p c) W c := by
  refine ⟨fun i l h1 h2 => ?_, rfl, rfl, rfl, fun k hk => ?_, rfl⟩
  · unfold TP
    rw [if_neg h1]
    unfold mM
    rw [zrow_ne h2, zm2_i _ _ h1, zm2_i _ _ h1, zm2_i _ _ h1, zm2_i _ _ h1]
  · show crow W _ k = W k
    exact crow_of _ _ k hk
/-- nothing was told: the old world again -/
theorem told_no (h : LR m) {R V : Nat → Nat → Int32} {W' : Nat → Int32} {y d : Int32} {c : Nat} (rr : RR M R (m 138) c) (eS : V = zm2 (zm2 R 137 11 y) 137 0 d) (e1 : ∀ i l, 1 ≤ i → i < 43 → M i l = m i l) (e2 : ∀ i l, (85 ≤ i ∧ i < 127) ∨ (i = 0 ∧ l = 3) ∨ (i = 137 ∧ l = 4) ∨ i = 139 → M i l = m i l) (m5 : M 0 5 = Int32.ofNat 0) (m6 : M 0 6 = y) : LR (zrow V 138 (crow (V 140) W')) := by
  obtain ⟨q1, q2, q3, q4, q5, -⟩ := rr
  have s8 : zrow V 138 (crow (V 140) W') 138 = crow (V 140) W' := if_pos rfl
  have zr : ∀ i, i ≠ 138 → zrow V 138 (crow (V 140) W') i = V i := fun i hi => if_neg hi
  have v : ∀ i l, i ≠ 137 → V i l = R i l := fun i l hi => by rw [eS, zx_ne _ _ _ hi, zx_ne _ _ _ hi]
  have w : ∀ l, l ≠ 0 → l ≠ 11 → V 137 l = R 137 l := fun l h1 h2 => by rw [eS, zx_nk _ _ h1, zx_nk _ _ h2]
  have cb : ∀ k, k < 788 → crow (V 140) W' k = m 138 k := fun k hk => (crow_of _ _ k hk).trans ((v 140 k (by decide)).trans (q5 k hk))
  refine h.told ?_ ?_ ?_ (fun i l hi => ?_) ?_ ?_ ?_
  · rw [s8]
    refine (h.1.1.far (fun i l h1 h2 => ?_)).of h.1.2.W cb
    rw [zr i (by omega), v i l (by omega), q1 i l (by omega) (by omega)]
    exact e1 i l h1 h2
  · rw [s8]; exact h.1.2.of cb
  · rw [s8]; exact ok.of h.2.2.2.2.2.2.1 (cb 10 (by omega))
  · rw [zr i (by omega), ← e2 i l hi]
    by_cases hi7 : i = 137
    · subst hi7
      have hl : l = 4 := by omega
      subst hl
      rw [w 4 (by omega) (by omega)]
      exact q2
    · rw [v i l hi7]
      exact q1 i l hi7 (by omega)
  · rw [zr 0 (by omega), v 0 5 (by omega), q1 0 5 (by omega) (by omega)]; exact m5
  · rw [zr 137 (by omega), w 7 (by omega) (by omega)]; exact q3
  · rw [zr 0 (by omega), zr 137 (by omega), v 0 6 (by omega), q1 0 6 (by omega) (by omega), m6, eS, zx_nk _ _ (by omega), zx_at]
theorem machine_lr (h : LR m) (hx : XI m) (hN : m 0 5 = Int32.ofNat N) (n4 : N ≤ 400) (eM : M = (e_machine m N b).2) : AN [2, 3] (e_machine m N b).1 ((q_machine M (m 138)).2.2 137 0) (q_machine M (m 138)).1 ∧ LR (zrow (q_machine M (m 138)).2.2 138 (q_machine M (m 138)).2.1) := by
  have mx := machine_x (n := N) (b := b) hx n4
  obtain ⟨p1, p2, p3, p4⟩ := xM3_x hx n4
  obtain ⟨-, -, a3, -⟩ := xM3_ok (n := N) hx.1.1 hx.1.2 hx.2.1.1 hx.2.1.2 n4
  have fM : FG m M := by rw [eM]; exact mx.2.2.1
  have m5 : M 0 5 = Int32.ofNat 0 := by rw [eM]; exact mx.2.2.2
  obtain ⟨rd, rb, r10⟩ := read_rx (M := M) h hx hN n4 (fM 137 7 (by omega)) (funext (fun l => fM 141 l (by omega)))
  obtain ⟨x6, x43⟩ := xM3_e (m := m) (N := N)
  rw [mcE_e] at eM ⊢
  unfold q_machine
  have rr : RR M (TP (mM M (m 138)) (q_readText (mM M (m 138)) (m 138) 0).2.2.1 (q_readText (mM M (m 138)) (m 138) 0).2.2.2) (m 138) (q_readText (mM M (m 138)) (m 138) 0).2.2.2 := RR_of
  generalize TP (mM M (m 138)) (q_readText (mM M (m 138)) (m 138) 0).2.2.1 (q_readText (mM M (m 138)) (m 138) 0).2.2.2 = R at rr ⊢
  generalize q_readText (mM M (m 138)) (m 138) 0 = Y at rd rb r10 rr ⊢
  generalize yRA (x_copyFrom m 43 1) N = X at rd x6 x43
  generalize xM3 m N = P at p1 p2 p3 p4 a3 x6 x43 eM ⊢
  have o10 := h.2.2.2.2.2.2.1
  rcases rd with ⟨t1, t2, t3⟩ | ⟨t1, t2⟩
  · have P6 : P 0 6 = -1 := x6.trans t1
    have P16 : P 1 6 = m 138 10 := (a3 1 6 (by omega) (by omega) (by omega)).trans (h.1.1.globR (k := 10) (o := 0) (s := 6) (by omega) (by omega) rfl)
    have e11 : zc2 .eq (-1 : Int32) (-1) = true := by decide
    unfold mcE at eM ⊢
    unfold q_machine38
    rw [P6, e11, cnT, P16, o10.1] at eM ⊢
    rw [t2, zeq1', cnF, zn1, cnT, r10, o10.1]
    have h12 := o10.2.2
    by_cases q12 : nv (m 138) 10 = 12
    · have z1 : zc2 .lt (Int32.ofNat 12) (Int32.ofNat 12) = false := by decide
      rw [q12, z1, cnF] at eM ⊢
      rw [zne_same, cnF]
      have eM2 : M = P := eM
      refine ⟨AN.x 1 rfl rfl, ?_⟩
      refine told_no (V := (q_thr1 (zm2 R 137 11 (-1)) 2).2) (y := -1) (d := Int32.ofNat 2) h rr rfl (fun i l h1 h2 => ?_) (fun i l hi => ?_) m5 (by rw [eM2]; exact P6)
      · rw [eM2]; exact a3 i l (by omega) (by omega) (by omega)
      · rw [eM2]
        by_cases hi7 : 137 ≤ i
        · exact p2 i l (by omega)
        · exact a3 i l (by omega) (by omega) (by omega)
    · rw [zclt (by omega) (by omega) (show nv (m 138) 10 < 12 by omega), cnT] at eM ⊢
      rw [tne_tt (by omega) (by omega) q12, cnT]
      have eM2 : M = zm2 (zm2 (x_copyFrom P 1 43) 1 6 (x_copyFrom P 1 43 1 6 + Int32.ofNat 1)) 131 8 (Int32.ofNat 0) := eM
      have rP : RC P 43 Y.2.1 := t3.1.far (fun i l h1 h2 => x43 i l h1 (by omega))
      have r1 : RC (x_copyFrom P 1 43) 1 Y.2.1 := rP.copy (b := 1) t3.2.W (Or.inl (by omega)) p3
      have f1 : FB (x_copyFrom P 1 43) 1 P := FB.copy (Or.inl (by omega)) p3 FB.refl
      have c6 : x_copyFrom P 1 43 1 6 = Int32.ofNat (nv (m 138) 10) := (r1.globR (k := 10) (o := 0) (s := 6) (by omega) (by omega) rfl).trans (r10.trans o10.1)
      have r2 : RC (zm2 (x_copyFrom P 1 43) 1 6 (x_copyFrom P 1 43 1 6 + Int32.ofNat 1)) 1 (upd Y.2.1 10 (x_copyFrom P 1 43 1 6 + Int32.ofNat 1)) := r1.globS (k := 10) (o := 0) (s := 6) t3.2.W.C (by omega) (by omega) (by omega) rfl
      rw [c6, i_add] at r2 eM2
      rw [c6, i_add]
      have wz : WZ (upd Y.2.1 10 (Int32.ofNat (nv (m 138) 10 + 1))) := t3.2.gen (by omega) (t3.2.W.put _ (fre_lo (by omega) (by omega))) (by omega) (by omega) (by omega)
      have tx : TX (upd Y.2.1 10 (Int32.ofNat (nv (m 138) 10 + 1))) := ok.is (upd_at _ _ _) (by omega) (by omega) (by omega)
      have Mi : ∀ i l, i = 0 ∨ (43 ≤ i ∧ i ≠ 131) → M i l = P i l := fun i l hi => by
        rw [eM2, zx_ne _ _ _ (by omega), zx_ne _ _ _ (by omega)]
        exact f1 i l (by omega)
      obtain ⟨q1, q2, q3, q4, q5, q6⟩ := rr
      refine ⟨AN.v ?_ ?_, ?_⟩
      · show zm2 R 137 11 (-1) 137 0 = Int32.ofNat 0
        rw [zx_nk _ _ (by decide)]
        exact q6
      · show zm2 (zm2 (x_copyFrom P 1 43) 1 6 (Int32.ofNat (nv (m 138) 10 + 1))) 131 8 (Int32.ofNat 0) 1 6 = upd Y.2.1 10 (Int32.ofNat (nv (m 138) 10 + 1)) 10
        rw [zx_ne _ _ _ (by omega), zx_at, upd_at]
      · show LR (zrow (zm2 R 137 11 (-1)) 138 (upd Y.2.1 10 (Int32.ofNat (nv (m 138) 10 + 1))))
        have s8 : zrow (zm2 R 137 11 (-1)) 138 (upd Y.2.1 10 (Int32.ofNat (nv (m 138) 10 + 1))) 138 = upd Y.2.1 10 (Int32.ofNat (nv (m 138) 10 + 1)) := if_pos rfl
        have zr : ∀ i, i ≠ 138 → zrow (zm2 R 137 11 (-1)) 138 (upd Y.2.1 10 (Int32.ofNat (nv (m 138) 10 + 1))) i = zm2 R 137 11 (-1) i := fun i hi => if_neg hi
        refine h.told ?_ ?_ ?_ (fun i l hi => ?_) ?_ ?_ ?_
        · rw [s8]
          refine r2.far (fun i l h1 h2 => ?_)
          rw [zr i (by omega), zx_ne _ _ _ (by omega), q1 i l (by omega) (by omega), eM2, zx_ne _ _ _ (by omega)]
        · rw [s8]; exact wz
        · rw [s8]; exact tx
        · rw [zr i (by omega), zx_o _ _ (by omega)]
          by_cases hi7 : i = 137
          · subst hi7
            have hl : l = 4 := by omega
            subst hl
            exact q2.trans (fM 137 4 (by omega))
          · rw [q1 i l hi7 (by omega)]
            by_cases hi8 : 137 ≤ i
            · exact fM i l (by omega)
            · rw [Mi i l (by omega)]
              exact a3 i l (by omega) (by omega) (by omega)
        · rw [zr 0 (by omega), zx_ne _ _ _ (by omega), q1 0 5 (by omega) (by omega)]; exact m5
        · rw [zr 137 (by omega), zx_nk _ _ (by omega)]; exact q3
        · rw [zr 0 (by omega), zr 137 (by omega), zx_ne _ _ _ (by omega), q1 0 6 (by omega) (by omega), Mi 0 6 (by omega), P6, zx_at]
  · have P6 : P 0 6 = Int32.ofNat Y.2.2.2 := x6.trans t2
    have ne : ∀ i, i ≤ 400 → zc2 .eq (Int32.ofNat i) (-1) = false := by decide +kernel
    unfold mcE at eM ⊢
    unfold q_machine38
    rw [P6, ne _ rb, cnF] at eM ⊢
    rw [t1, zeq0, cnT, zne0, cnF]
    have eM2 : M = P := eM
    refine ⟨AN.x 0 rfl rfl, ?_⟩
    refine told_no (V := (q_thr1 (zm2 R 137 11 (R 137 10)) 1).2) (y := R 137 10) (d := Int32.ofNat 1) h rr rfl (fun i l h1 h2 => ?_) (fun i l hi => ?_) m5 (by rw [eM2, P6]; exact rr.2.2.2.1.symm)
    · rw [eM2]; exact a3 i l (by omega) (by omega) (by omega)
    · rw [eM2]
      by_cases hi7 : 137 ≤ i
      · exact p2 i l (by omega)
      · exact a3 i l (by omega) (by omega) (by omega)
end ZMC
