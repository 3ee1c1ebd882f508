/-! the reference's other methods keep the order -/
section ZML
variable {m m' M : Nat → Nat → Int32} {W W' V : Nat → Int32}
theorem zrow_ne {a i : Nat} {w : Nat → Int32} (h : i ≠ a) : zrow m a w i = m i := if_neg h
/-- the memory while a text is told: what matters of it -/
noncomputable def MB (m : Nat → Nat → Int32) (W : Nat → Int32) (M : Nat → Nat → Int32) : Prop := M 137 4 = m 137 4 ∧ M 139 = m 139 ∧ M 137 7 = Int32.ofNat 0 ∧ (∃ b, b ≤ 400 ∧ M 137 10 = Int32.ofNat b) ∧ M 137 16 = m 137 16 ∧ LO m M ∧ ∀ k, k < 788 → M 140 k = W k
theorem MB.put {k : Nat} {x : Int32} (h : MB m W M) (hk : k = 11 ∨ k = 0) : MB m W (zm2 M 137 k x) := by
  obtain ⟨h1, h2, h3, ⟨b, h4, h5⟩, h6, h7, h8⟩ := h
  have e : ∀ l, l ≠ k → zm2 M 137 k x 137 l = M 137 l := fun l hl => zx_nk _ _ hl
  have r : ∀ i, i ≠ 137 → zm2 M 137 k x i = M i := fun i hi => if_neg hi
  refine ⟨(e 4 (by omega)).trans h1, (r 139 (by omega)).trans h2, (e 7 (by omega)).trans h3, ⟨b, h4, (e 10 (by omega)).trans h5⟩, (e 16 (by omega)).trans h6, fun i hi => (r i (by omega)).trans (h7 i hi), fun l hl => ?_⟩
  rw [r 140 (by omega)]
  exact h8 l hl
theorem MB.thr {c : Nat} (h : MB m W M) : MB m W (q_thr1 M c).2 := h.put (Or.inr rfl)
/-- a result in order -/
noncomputable def MO (m : Nat → Nat → Int32) (q : Int32 × (Nat → Int32) × (Nat → Nat → Int32)) : Prop := MJ q.2.2 q.2.1 ∧ LO m q.2.2
noncomputable def MZ (m : Nat → Nat → Int32) (q : Int32 × (Nat → Int32) × (Nat → Nat → Int32)) : Prop := MO m q ∧ q.2.2 137 7 = Int32.ofNat 0 ∧ q.2.2 137 4 = m 137 4
theorem MB.o {v : Int32} (hj : MJ m W) (h : MB m W M) (hw : WLT V) : MZ m (v, V, M) := by
  obtain ⟨h1, h2, h3, h4, h6, h7, h8⟩ := h
  refine ⟨⟨⟨hw, ?_, okm.is h3 (by omega) (by omega), h4, hj.2.2.2.2.of h6⟩, h7⟩, h3, h1⟩
  show M 137 4 = 0 ∨ WLT (M 139)
  rw [h1, h2]
  exact hj.2.1
theorem MB.back {v : Int32} (hj : MJ m W) (h : MB m W M) : MZ m (v, crow (M 140) V, M) := h.o hj (hj.1.of (fun k hk => (crow_of _ _ k hk).trans (h.2.2.2.2.2.2 k hk)))
theorem mM_B {T p b : Nat} (hj : MJ m W) (hT : m 137 7 = Int32.ofNat T) (hb : b ≤ 400) : MB m W (TP (mM m W) p b) := by
  refine ⟨rfl, rfl, rfl, ⟨b, hb, rfl⟩, rfl, fun i hi => ?_, fun k hk => ?_⟩
  · unfold TP
    rw [if_neg (by omega)]
    unfold mM
    rw [zrow_ne (by omega), zm2_i _ _ (by omega), zm2_i _ _ (by omega), zm2_i _ _ (by omega), zm2_i _ _ (by omega)]
  · show crow W _ k = W k
    exact crow_of _ _ k hk
theorem machine_o (hj : MJ m W) : MZ m (q_machine m W) := by
  have h7 := hj.2.2.1
  obtain ⟨g1, g2⟩ := mM_G (W := W) h7.1 h7.2
  have rt := readText_WG (W := W) (p := 0) g1 (Nat.zero_le _) hj.1.1
  have r12 : R12 (W 12) (q_readText (mM m W) W 0) := readText_12 rfl
  have hb : (q_readText (mM m W) W 0).2.2.2 ≤ 400 := by
    have a := rt.1.1
    have c := rt.1.2.1
    have d := h7.2
    omega
  have B := mM_B (p := (q_readText (mM m W) W 0).2.2.1) hj h7.1 hb
  unfold q_machine
  have rw1 := rt.2
  generalize TP (mM m W) (q_readText (mM m W) W 0).2.2.1 (q_readText (mM m W) W 0).2.2.2 = M at B ⊢
  generalize q_readText (mM m W) W 0 = X at rw1 r12 ⊢
  have ok : ∀ (v x : Int32) (M : Nat → Nat → Int32), ¬ X.1 = 0 → MB m W M → MZ m (v, upd X.2.1 10 x, M) := fun v x M hn h => h.o hj ⟨(rw1 hn).put _ (fre_lo (by omega) (by omega)), LT.put (LT_eq hj.1.2 r12) _ (by omega)⟩
  have B1 := B.put (k := 11) (x := M 137 10) (Or.inl rfl)
  have B2 := B.put (k := 11) (x := -1) (Or.inl rfl)
  unfold q_machine38
  refine cnd4 (MZ m) (fun _ => cnd4 (MZ m) (fun hn => cnd4 (MZ m) (fun _ => ok _ _ _ (of_decide_eq_true hn) B1) (fun _ => B1.thr.back hj)) (fun _ => B1.thr.back hj)) (fun _ => cnd4 (MZ m) (fun hn => cnd4 (MZ m) (fun _ => ok _ _ _ (of_decide_eq_true hn) B2) (fun _ => B2.thr.back hj)) (fun _ => B2.thr.back hj))
theorem QK.o {q : Int32 × (Nat → Int32) × (Nat → Nat → Int32)} (hj : MJ m W) (h : QK m q) : MO m q := ⟨hj.mr h.2 h.1, h.2.lo⟩
theorem image_o (hj : MJ m W) : MJ (q_image m W) W ∧ LO m (q_image m W) := by
  refine ⟨⟨hj.1, Or.inr (hj.1.of (W' := q_image m W 139) (fun k hk => crow_of _ _ k hk)), hj.2.2.1, hj.2.2.2.1, hj.2.2.2.2⟩, fun i hi => ?_⟩
  unfold q_image
  rw [zm2_i _ _ (by omega), zrow_ne (by omega), zm2_i _ _ (by omega)]
theorem back_o (hj : MJ m W) : MO m (q_back m W) := by
  have f : MR m (zm2 m 137 0 (Int32.ofNat 0)) := (MR.rf m).p0
  unfold q_back
  refine cndh (MO m) (fun h4 => ?_) (fun _ => (QK.mk hj.1 f).o hj)
  have h5 : ¬ m 137 4 = 0 := of_decide_eq_true h4
  have hw : WLT (m 139) := by
    rcases hj.2.1 with e | e
    · exact absurd e h5
    · exact e
  exact (QK.mk (hw.of (fun k hk => crow_of _ _ k hk)) f).o hj
theorem end_o {n : Int32} (hj : MJ m W) : MJ (q_end m n).2 W ∧ LO m (q_end m n).2 := by
  have f : MR m (zm2 m 137 0 (Int32.ofNat 0)) := (MR.rf m).p0
  have a := hj.mr f hj.1
  unfold q_end
  refine cndh (fun q : Int32 × (Nat → Nat → Int32) => MJ q.2 W ∧ LO m q.2) (fun _ => ⟨a, f.lo⟩) (fun h1 => cndh (fun q : Int32 × (Nat → Nat → Int32) => MJ q.2 W ∧ LO m q.2) (fun h2 => ?_) (fun _ => ⟨a, f.lo⟩))
  rw [a.2.2.1.1] at h2
  have g := i7_of (by have := a.2.2.1.2; omega) h1 h2
  have g4 := a.2.2.1.2
  refine ⟨⟨a.1, a.2.1, ?_, a.2.2.2.1, a.2.2.2.2⟩, fun i hi => (zm2_i _ _ (by omega)).trans (f.lo i hi)⟩
  show okm (zm2 (zm2 m 137 0 (Int32.ofNat 0)) 137 7 n) 137 7 400
  exact okm.is (n := n.toNatClampNeg) ((zx_at _ _ _ _).trans g.1) (by omega) (by omega)
theorem serial_o {v : Int32} (hj : MJ m W) : MJ (q_serial m W v).2 W ∧ LO m (q_serial m W v).2 := by
  have e := serial_137 (m := m) (v := v) hj.1.1
  have r := serial_fr (m := m) (v := v) hj.1.1
  refine ⟨⟨hj.1, ?_, hj.2.2.1.of (e 7 (by omega)), ?_, hj.2.2.2.2.of (e 16 (by omega))⟩, fun i hi => r i (by omega) (by omega) (by omega)⟩
  · rw [e 4 (by omega), r 139 (by omega) (by omega) (by omega)]
    exact hj.2.1
  · rw [e 10 (by omega)]
    exact hj.2.2.2.1
theorem text_o (hj : MJ m W) (h : TF m m') : MJ m' W ∧ LO m m' := by
  obtain ⟨r, e, w, hw, h16⟩ := h
  refine ⟨⟨hj.1, ?_, hj.2.2.1.of (e 7 (by omega) (by omega)), ?_, okm.is h16 hw (by omega)⟩, fun i hi => r i (by omega) (by omega)⟩
  · rw [e 4 (by omega) (by omega), r 139 (by omega) (by omega)]
    exact hj.2.1
  · rw [e 10 (by omega) (by omega)]
    exact hj.2.2.2.1
/-- rows that a feeding leaves alone -/
theorem feedL_v {a b c e f : Int32} {T : Nat} : ∀ (n k : Nat) (m : Nat → Nat → Int32), (∀ i l, i ≠ 141 → i ≠ 137 ∨ l ≠ 7 → (l_feed a b c e f T n k m).2 i l = m i l) ∧ (l_feed a b c e f T n k m).2 137 7 = Int32.ofNat (T + 20) ∧ (l_feed a b c e f T n k m).1 = Int32.ofNat (T + 20) := by
  intro n
  induction n with
  | zero =>
    intro k m
    refine ⟨fun i l _ h2 => ?_, ?_, rfl⟩
    · show zm2 m 137 7 (Int32.ofNat (T + 20)) i l = m i l
      exact zx_o _ _ (by omega)
    · show zm2 m 137 7 (Int32.ofNat (T + 20)) 137 7 = _
      exact zx_at _ _ _ _
  | succ n ih =>
    intro k m
    obtain ⟨g1, g2, g3⟩ := ih (k + 1) (zm2 m 141 (T + k) (vp_nar .byte (((m 142 (k / 4)) >>> ((Int32.ofNat (24 - (8 * (k % 4)))) &&& 31)).toInt8.toInt32)))
    exact ⟨fun i l h1 h2 => (g1 i l h1 h2).trans (zx_ne _ _ _ h1), g2, g3⟩
theorem feed_o {a b c e f : Int32} {T : Nat} (hj : MJ m W) (hT : T ≤ 400) : MJ (q_feed m a b c e f T).2 W ∧ LO m (q_feed m a b c e f T).2 := by
  have f0 : MR m (zm2 m 137 0 (Int32.ofNat 0)) := (MR.rf m).p0
  unfold q_feed
  refine cndh (fun q : Int32 × (Nat → Nat → Int32) => MJ q.2 W ∧ LO m q.2) (fun hq => ?_) (fun _ => ⟨hj.mr f0 hj.1, f0.lo⟩)
  have h20 := tle_t (by omega) (by omega) hq
  obtain ⟨g1, g2, -⟩ := feedL_v (a := a) (b := b) (c := c) (e := e) (f := f) (T := T) 20 0 (zm2 (zm2 (zm2 (zm2 (zm2 (zm2 m 137 0 (Int32.ofNat 0)) 142 0 a) 142 1 b) 142 2 c) 142 3 e) 142 4 f)
  have r : ∀ i l, i ≠ 141 → i ≠ 142 → (i ≠ 137 ∨ (l ≠ 7 ∧ l ≠ 0)) → (l_feed a b c e f T 20 0 (zm2 (zm2 (zm2 (zm2 (zm2 (zm2 m 137 0 (Int32.ofNat 0)) 142 0 a) 142 1 b) 142 2 c) 142 3 e) 142 4 f)).2 i l = m i l := by
    intro i l h1 h2 h3
    rw [g1 i l h1 (by omega), zx_ne _ _ _ h2, zx_ne _ _ _ h2, zx_ne _ _ _ h2, zx_ne _ _ _ h2, zx_ne _ _ _ h2]
    exact zx_o _ _ (by omega)
  refine ⟨⟨hj.1, ?_, okm.is g2 (by omega) (by omega), ?_, hj.2.2.2.2.of (r 137 16 (by omega) (by omega) (by omega))⟩, fun i hi => funext (fun l => r i l (by omega) (by omega) (by omega))⟩
  · have e139 : (l_feed a b c e f T 20 0 (zm2 (zm2 (zm2 (zm2 (zm2 (zm2 m 137 0 (Int32.ofNat 0)) 142 0 a) 142 1 b) 142 2 c) 142 3 e) 142 4 f)).2 139 = m 139 := funext (fun l => r 139 l (by omega) (by omega) (by omega))
    rw [r 137 4 (by omega) (by omega) (by omega), e139]
    exact hj.2.1
  · rw [r 137 10 (by omega) (by omega) (by omega)]
    exact hj.2.2.2.1
end ZML
