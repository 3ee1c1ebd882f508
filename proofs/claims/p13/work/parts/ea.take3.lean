/-! a deed, on both sides -/
noncomputable def RD (b t : Nat) (mm : Nat → Nat → Int32) (W : Nat → Int32) (p : QM) (q : QT) : Prop := RC p.2 b q.2.1 ∧ WX q.2.1 ∧ CG p.2 b ∧ nv q.2.1 9 = nv W 9 ∧ ((p.1 = Int32.ofNat 1 ∧ q.1 = Int32.ofNat 1 ∧ q.2.2 = mm ∧ (q.2.1 (376 + 103 * t + 21) = W (376 + 103 * t + 21) ∨ q.2.1 (376 + 103 * t + 21) = Int32.ofNat 0)) ∨ (p.1 = Int32.ofNat 0 ∧ q.1 = Int32.ofNat 0 ∧ q.2.2 = mm) ∨ (p.1 = -1 ∧ q.1 = Int32.ofNat 0 ∧ q.2.2 = zm2 mm 137 5 (Int32.ofNat 1)))
theorem cnT {α : Type} (a b : α) : (bif true then a else b) = a := Eq.trans (cond_true a b) (Eq.refl a)
theorem cnF {α : Type} (a b : α) : (bif false then a else b) = b := Eq.trans (cond_false a b) (Eq.refl b)
theorem zne_n (z : Int32) : zc1 .ne z = !(zc1 .eq z) := by
  unfold zc1
  dsimp only
  rw [decide_not]
theorem zne2_n (y z : Int32) : zc2 .ne y z = !(zc2 .eq y z) := by
  unfold zc2
  dsimp only
  rw [decide_not]
theorem zge_n (y z : Int32) : zc2 .ge y z = !(zc2 .lt y z) := by
  unfold zc2
  dsimp only
  rw [← decide_not, decide_eq_decide, Int32.le_iff_toInt_le, Int32.lt_iff_toInt_lt]
  omega
/-- what a read or a write leaves of the world's count -/
theorem clears_9 {mm : Nat → Nat → Int32} {W : Nat → Int32} {t : Nat} {s : Int32} (hw : WG W) (ht : t < 4) : (q_clears mm W t s).2.1 9 = W 9 := by
  have L : ∀ (n k : Nat) (V : Nat → Int32), k + n = nv W 9 → WG V → (l_clears (Int32.ofNat t) s (nv W 9) n k V).2 9 = V 9 := by
    have h4 := hw.N4
    intro n
    induction n with
    | zero => intro k V _ _; rfl
    | succ n ih =>
      intro k V hk hV
      rw [l_clears]
      cases zc1 .eq (q_holds s k) with
      | true => exact ih _ _ (by omega) hV
      | false => exact (ih _ _ (by omega) (hV.falls (by omega) (by omega))).trans (falls_6 hV (by omega) (by omega) (by omega))
  unfold q_clears
  cases zc1 .eq (q_yields W t s) with
  | true => exact L _ _ _ (by omega) hw
  | false => exact falls_6 hw ht (by omega) (by omega)
theorem reads_9 {mm : Nat → Nat → Int32} {W : Nat → Int32} {t : Nat} {w : Int32} (hw : WG W) (ht : t < 4) : (q_reads mm W t w).2.1 9 = W 9 := by
  have e := clears_9 (mm := mm) (s := q_clash W (Int32.ofNat t) (q_blockOf W w) (Int32.ofNat 0)) hw ht
  unfold q_reads
  generalize q_clears mm W t (q_clash W (Int32.ofNat t) (q_blockOf W w) (Int32.ofNat 0)) = c at e ⊢
  refine cndi (fun q : QT => q.2.1 9 = W 9) (cndi (fun q : QT => q.2.1 9 = W 9) e ?_) e
  dsimp only
  rw [upd_ne _ _ (by omega)]
  exact e
theorem writesB_9 {mm : Nat → Nat → Int32} {W : Nat → Int32} {t w : Nat} {v x g : Int32} (hw : WG W) (ht : t < 4) : (q_writesB mm W t w v x g).2.1 9 = W 9 := by
  have e := clears_9 (mm := mm) (s := q_clash W (Int32.ofNat t) x (Int32.ofNat 1)) hw ht
  unfold q_writesB
  generalize q_clears mm W t (q_clash W (Int32.ofNat t) x (Int32.ofNat 1)) = c at e ⊢
  refine cndi (fun q : QT => q.2.1 9 = W 9) (cndi (fun q : QT => q.2.1 9 = W 9) ?_ ?_) e
  · show upd _ _ _ 9 = W 9
    rw [upd_ne _ _ (by omega)]
    exact e
  · show upd (upd (upd _ _ _) _ _) _ _ 9 = W 9
    rw [upd_ne _ _ (by omega), upd_ne _ _ (by omega), upd_ne _ _ (by omega)]
    exact e
theorem writes_9 {mm : Nat → Nat → Int32} {W : Nat → Int32} {t w : Nat} {v : Int32} (hw : WG W) (ht : t < 4) : (q_writes mm W t w v).2.1 9 = W 9 := by
  unfold q_writes
  exact cndi (fun q : QT => q.2.1 9 = W 9) (writesB_9 hw ht) (cndi (fun q : QT => q.2.1 9 = W 9) (writesB_9 hw ht) (cndi (fun q : QT => q.2.1 9 = W 9) (writesB_9 hw ht) (falls_6 hw ht (by omega) (by omega))))
/-- a read or a write that is all of a deed -/
theorem RU.d {mm : Nat → Nat → Int32} {b t : Nat} {W : Nat → Int32} {p : QM} {q : QT} (h : RU b t mm W p q) (e9 : q.2.1 9 = W 9) : RD b t mm W p q := by
  obtain ⟨h1, h2, h3, h4⟩ := h
  refine ⟨h1, h2, h3, nv_of e9, ?_⟩
  rcases h4 with ⟨a, c, d, f⟩ | ⟨a, c, d, _⟩
  · exact Or.inl ⟨a, c, d, Or.inl (f.2 21 (by omega) (by omega) (by omega))⟩
  · exact Or.inr (Or.inr ⟨a, c, d⟩)
theorem RD.fell {m mm : Nat → Nat → Int32} {b : Nat} {W : Nat → Int32} {t y : Nat} (h : RC m b W) (hx : WX W) (hc : CG m b) (ht : t < nv W 9) (hy : y < 5) (hg : W (376 + 103 * t + 2) = Int32.ofNat 1) : RD b t mm W ((x_fall m b t y).1, (x_fall m b t y).2) (Int32.ofNat 0, (q_itFalls mm W t y).1, (q_itFalls mm W t y).2) := by
  have h4 := hx.W.N4
  exact (RU.fell h hx hc ht hy hg).d (falls_6 hx.W (by omega) hy (by omega))
theorem RD.of {mm : Nat → Nat → Int32} {b t : Nat} {W V : Nat → Int32} {p : QM} {q : QT} (h : RD b t mm V p q) (e9 : nv V 9 = nv W 9) (e21 : V (376 + 103 * t + 21) = W (376 + 103 * t + 21)) : RD b t mm W p q := by
  unfold RD at *
  rw [e9, e21] at h
  exact h
theorem isTaken_9 {V : Nat → Int32} {t l : Nat} (hw : WG V) (hl : l < 4) : q_isTaken V t l 9 = V 9 ∧ (t < 4 → q_isTaken V t l (376 + 103 * t + 21) = V (376 + 103 * t + 21)) := by
  have C1 : WC (upd (upd V (376 + 103 * t + 3) (Int32.ofNat 0)) (24 + l) (upd V (376 + 103 * t + 3) (Int32.ofNat 0) (24 + l) + Int32.ofNat 1)) := WC_of (by simp (disch := omega) only [upd_ne]) hw.C
  unfold q_isTaken
  refine cndi (fun q : Nat → Int32 => q 9 = V 9 ∧ (t < 4 → q (376 + 103 * t + 21) = V (376 + 103 * t + 21))) ?_ ?_
  · refine ⟨?_, fun _ => ?_⟩
    · rw [logs_fr C1 (by omega) (by omega)]
      simp (disch := omega) only [upd_ne]
    · rw [logs_fr C1 (by omega) (by omega)]
      simp (disch := omega) only [upd_ne]
  · refine ⟨?_, fun _ => ?_⟩
    · rw [logs_fr (WC_of (upd_ne _ _ (by omega)) C1) (by omega) (by omega)]
      simp (disch := omega) only [upd_ne]
    · rw [logs_fr (WC_of (upd_ne _ _ (by omega)) C1) (by omega) (by omega)]
      simp (disch := omega) only [upd_ne]
theorem begins_9 {W : Nat → Int32} {t l : Nat} (hw : WG W) (hl : nv W (376 + 103 * t + 10) < 4) : q_beginsGuess W t l 9 = W 9 ∧ q_beginsGuess W t l (376 + 103 * t + 21) = W (376 + 103 * t + 21) := by
  have e10 : ∀ a c d f g : Int32, nv (upd (upd (upd (upd (upd W (376 + 103 * t + 2) a) (376 + 103 * t + 18) c) (376 + 103 * t + 19) d) (376 + 103 * t + 20) f) (376 + 103 * t + 15) g) (376 + 103 * t + 10) = nv W (376 + 103 * t + 10) := fun a c d f g => nv_of (by simp (disch := omega) only [upd_ne])
  unfold q_beginsGuess q_leavesOut
  rw [e10]
  constructor
  · rw [logs_fr (WC_of (by simp (disch := omega) only [upd_ne]) hw.C) (by omega) (by omega)]
    simp (disch := omega) only [upd_ne]
  · rw [logs_fr (WC_of (by simp (disch := omega) only [upd_ne]) hw.C) (by omega) (by omega)]
    simp (disch := omega) only [upd_ne]
theorem takeP_rx {m mm : Nat → Nat → Int32} {b : Nat} {W : Nat → Int32} {t l : Nat} (h : RC m b W) (hx : WX W) (hc : CG m b) (ht : t < nv W 9) (hl : l < 4) (hA : AL W t) (hg : W (376 + 103 * t + 2) = Int32.ofNat 0) : RD b t mm W (x_takePlainly m b t l) (q_takes mm W t l) := by
  have h4 := hx.W.N4
  have ht4 : t < 4 := by omega
  have w32 := hx.W.lk32 hl
  have r := reads_rx (mm := mm) (w := nv W (16 + l)) h hx hc ht
  have k := KG.reads (m := mm) (t := t) ⟨hx.W, hA⟩ ht4 (Int32.ofNat (nv W (16 + l)))
  unfold x_takePlainly q_takes
  rw [h.lw hl]
  generalize x_reach m b t (nv W (16 + l)) (-1) = P at r ⊢
  generalize q_reads mm W t (Int32.ofNat (nv W (16 + l))) = Q at r k ⊢
  obtain ⟨p0, m'⟩ := P
  obtain ⟨q0, W', mm'⟩ := Q
  obtain ⟨h', x', c', d⟩ := r
  rcases d with ⟨-, d2, d3, f⟩ | ⟨-, -, -, d4⟩
  rotate_left
  · rw [hg] at d4
    exact absurd d4 (by decide)
  dsimp only at h' x' c' d2 d3 f k ⊢
  subst d2
  subst d3
  rw [zn1, cond_true]
  have e2 : W' (376 + 103 * t + 2) = Int32.ofNat 0 := (f.2 2 (by omega) (by omega) (by omega)).trans hg
  have n9 : nv W' 9 = nv W 9 := nv_of (f.1 9 (by omega))
  have e21 : W' (376 + 103 * t + 21) = W (376 + 103 * t + 21) := f.2 21 (by omega) (by omega) (by omega)
  have nl : nv W' (16 + l) = nv W (16 + l) := nv_of (f.1 (16 + l) (by omega))
  have ht' : t < nv W' 9 := by omega
  refine RD.of (V := W') ?_ n9 e21
  rw [takePB_eq, h'.lw hl, nl]
  have es : q_seen W' t (nv W (16 + l)) = m' (b + 1) (nv W (16 + l)) := by
    rw [← seen_eq h' x' ht' w32]
    unfold x_seenBy
    rw [h'.gs ht4 ht', e2, zeq0, cond_true]
  have q2 : zc2 .ne (q_of W' t 2) (Int32.ofNat 1) = true := decide_eq_true (by show ¬ W' (376 + 103 * t + 2) = Int32.ofNat 1; rw [e2]; decide)
  unfold q_takesB
  rw [es, zne_n]
  cases hz : zc1 .eq (m' (b + 1) (nv W (16 + l))) with
  | false =>
    simp only [cnT, cnF, Bool.not_false]
    unfold q_takesC
    rw [q2, cond_true, zne0, cond_false]
    exact ⟨h', x', c', rfl, Or.inr (Or.inl ⟨rfl, rfl, rfl⟩)⟩
  | true =>
    simp only [cnT, cnF, Bool.not_true]
    unfold q_takesC
    rw [q2, cond_true, zn1, cond_true]
    have t3 : m' (b + 10 + 7 * t) 5 = q_of W' t 3 := h'.cellS ht4 (by omega) (cnd0 ht' (by omega)) rfl
    have t1 : m' (b + 3) 1 = W' 1 := h'.glob (k := 1) (by omega) (by omega)
    have t20 : m' (b + 5 + l) 1 = W' (20 + l) := h'.lkR (k := 20 + l) (by omega) (by omega) (cm_20 hl)
    have t4 : m' (b + 3) 4 = W' 4 := h'.glob (k := 4) (by omega) (by omega)
    rw [t3, t1, t20, t4]
    -- what is taken
    have wr := writes_rx (mm := mm') (w := nv W (16 + l)) (v := Int32.ofNat 1) h' x' c' ht' w32 (by decide)
    generalize x_reach m' b t (nv W (16 + l)) (Int32.ofNat 1) = P at wr ⊢
    generalize q_writes mm' W' t (nv W (16 + l)) (Int32.ofNat 1) = Q at wr ⊢
    obtain ⟨p1, m2⟩ := P
    obtain ⟨q1, W2, mm2⟩ := Q
    obtain ⟨h2, x2, c2, d⟩ := wr
    rcases d with ⟨-, d2, d3, f2⟩ | ⟨-, -, -, d4⟩
    rotate_left
    · rw [e2] at d4
      exact absurd d4 (by decide)
    dsimp only at h2 x2 c2 d2 d3 f2 ⊢
    subst d3
    have n92 : nv W2 9 = nv W' 9 := nv_of (f2.1 9 (by omega))
    obtain ⟨z1, z2, z3, z4⟩ := taken_rx (t := t) (l := l) h2 x2 c2 (by omega) hl
    obtain ⟨y9, y21⟩ := isTaken_9 (t := t) (l := l) x2.W hl
    have T : RD b t mm2 W' (x_takenB m2 b t l) (Int32.ofNat 1, q_isTaken W2 t l, mm2) := ⟨z2, z3, z4, (nv_of y9).trans n92, Or.inl ⟨z1, rfl, rfl, Or.inl ((y21 ht4).trans (f2.2 21 (by omega) (by omega) (by omega)))⟩⟩
    cases zc2 .ge (q_of W' t 3) (W' 1) with
    | true => simp only [cnT]; exact T
    | false =>
      simp only [cnF]
      cases zc2 .lt (W' (20 + l)) (W' 4) with
      | true => simp only [cnT]; exact T
      | false =>
        simp only [cnF]
        obtain ⟨b1, b2, b3⟩ := begun_rx (l := l) h' x' c' ht' hl k.2 e2
        obtain ⟨y9, y21⟩ := begins_9 (t := t) (l := l) x'.W (x'.W.idle ht4 q2)
        exact ⟨b1, b2, b3, nv_of y9, Or.inl ⟨rfl, rfl, rfl, Or.inl y21⟩⟩
theorem takeG_rx {m mm : Nat → Nat → Int32} {b : Nat} {W : Nat → Int32} {t l : Nat} (h : RC m b W) (hx : WX W) (hc : CG m b) (ht : t < nv W 9) (hl : l < 4) (hA : AL W t) (hg : W (376 + 103 * t + 2) = Int32.ofNat 1) : RD b t mm W (x_takeGuessing m b t l) (q_takes mm W t l) := by
  have h4 := hx.W.N4
  have ht4 : t < 4 := by omega
  have w32 := hx.W.lk32 hl
  have r := reads_rx (mm := mm) (w := nv W (16 + l)) h hx hc ht
  have k := KG.reads (m := mm) (t := t) ⟨hx.W, hA⟩ ht4 (Int32.ofNat (nv W (16 + l)))
  have k9 := reads_9 (mm := mm) (t := t) (w := Int32.ofNat (nv W (16 + l))) hx.W ht4
  unfold x_takeGuessing q_takes
  rw [h.lw hl]
  generalize x_reach m b t (nv W (16 + l)) (-1) = P at r ⊢
  generalize q_reads mm W t (Int32.ofNat (nv W (16 + l))) = Q at r k k9 ⊢
  obtain ⟨p0, m'⟩ := P
  obtain ⟨q0, W', mm'⟩ := Q
  obtain ⟨h', x', c', d⟩ := r
  have n9 : nv W' 9 = nv W 9 := nv_of k9
  rcases d with ⟨d1, d2, d3, f⟩ | ⟨d1, d2, d3, -⟩
  rotate_left
  · dsimp only at h' x' c' d1 d2 d3 ⊢
    subst d1
    subst d2
    subst d3
    rw [zne0, cond_false, show zc2 .ne (-1 : Int32) (-1) = false from by decide, cond_false]
    exact ⟨h', x', c', n9, Or.inr (Or.inr ⟨rfl, rfl, rfl⟩)⟩
  dsimp only at h' x' c' d1 d2 d3 f k ⊢
  subst d1
  subst d2
  subst d3
  rw [zn1, cond_true, show zc2 .ne (Int32.ofNat 1) (-1) = true from by decide, cond_true]
  have e2 : W' (376 + 103 * t + 2) = Int32.ofNat 1 := (f.2 2 (by omega) (by omega) (by omega)).trans hg
  have e21 : W' (376 + 103 * t + 21) = W (376 + 103 * t + 21) := f.2 21 (by omega) (by omega) (by omega)
  have ht' : t < nv W' 9 := by omega
  refine RD.of (V := W') ?_ n9 e21
  obtain ⟨p1, -, -⟩ := place_rx (l := Int32.ofNat l) h' x' ht'
  have q2 : zc2 .ne (q_of W' t 2) (Int32.ofNat 1) = false := decide_eq_false (fun z => z e2)
  have F : ∀ g : Int32, q_takesC mm' W' t l (nv W (16 + l)) g = bif zc2 .eq (q_placeLeft W' t (Int32.ofNat l)) (-1) then (bif zc1 .eq g then (Int32.ofNat 0, (q_itFalls mm' W' t 4).1, (q_itFalls mm' W' t 4).2) else (bif zc2 .lt (Int32.ofNat (nv W' (376 + 103 * t + 10))) (Int32.ofNat (nv W' 2)) then (Int32.ofNat 1, q_leavesOut W' t l, mm') else ((q_writes mm' W' t (nv W (16 + l)) (Int32.ofNat 1)).1, (q_writes mm' W' t (nv W (16 + l)) (Int32.ofNat 1)).2.1, (q_writes mm' W' t (nv W (16 + l)) (Int32.ofNat 1)).2.2))) else (Int32.ofNat 0, (q_itFalls mm' W' t 2).1, (q_itFalls mm' W' t 2).2) := by
    intro g
    unfold q_takesC q_takesD
    rw [q2, cond_false, zne2_n, zne_n]
    cases zc2 .eq (q_placeLeft W' t (Int32.ofNat l)) (-1) <;> cases zc1 .eq g <;> simp only [cnT, cnF, Bool.not_true, Bool.not_false]
  unfold x_takeGB q_takesB
  rw [F, F, p1, zne_n, seen_eq h' x' ht' w32]
  cases zc2 .eq (q_placeLeft W' t (Int32.ofNat l)) (-1) with
  | false =>
    simp only [cnF]
    cases zc1 .eq (q_seen W' t (nv W (16 + l))) with
    | true => simp only [cnF, Bool.not_true]; exact RD.fell h' x' c' ht' (by omega) e2
    | false => simp only [cnT, Bool.not_false]; exact RD.fell h' x' c' ht' (by omega) e2
  | true =>
    simp only [cnT]
    cases zc1 .eq (q_seen W' t (nv W (16 + l))) with
    | false =>
      simp only [Bool.not_false, cnT, cnF]
      rw [zeq0, cond_true]
      exact RD.fell h' x' c' ht' (by omega) e2
    | true =>
      simp only [Bool.not_true, cnT, cnF]
      rw [zeq1', cond_false]
      have o10 := (x'.W.2 t ht4).2.1
      have o2 := x'.W.1.2.1
      have g5 : m' (b + 14 + 7 * t) 5 = W' (376 + 103 * t + 10) := h'.left ht4 ht'
      have g2 : m' (b + 3) 2 = W' 2 := h'.glob (k := 2) (by omega) (by omega)
      rw [g5, g2, zge_n, ← o10.1, ← o2.1]
      cases hlt : zc2 .lt (W' (376 + 103 * t + 10)) (W' 2) with
      | true =>
        simp only [Bool.not_true, cnT, cnF]
        have hq : nv W' (376 + 103 * t + 10) < 4 := by
          rw [o10.1, o2.1] at hlt
          have a := zlt_t (by have := o10.2.2; omega) (by have := o2.2.2; omega) hlt
          have c := o2.2.2
          omega
        obtain ⟨b1, b2, b3⟩ := leavesOut_rx (l := l) h' x' c' ht' hl k.2 e2 hq
        refine ⟨b1, b2, b3, ?_, Or.inl ⟨rfl, rfl, rfl, Or.inl ?_⟩⟩
        · show nv (q_leavesOut W' t l) 9 = _
          apply nv_of
          unfold q_leavesOut
          rw [upd_ne _ _ (by omega), upd_ne _ _ (by omega)]
        · show q_leavesOut W' t l _ = _
          unfold q_leavesOut
          rw [upd_ne _ _ (by omega), upd_ne _ _ (by omega)]
      | false =>
        simp only [Bool.not_false, cnT, cnF]
        exact (writes_rx (mm := mm') (w := nv W (16 + l)) (v := Int32.ofNat 1) h' x' c' ht' w32 (by decide)).d (writes_9 x'.W ht4)
