theorem clearL_ne {b t : Nat} {i l : Nat} (h1 : i ≠ b + 13 + 7 * t) (h2 : i ≠ b + 14 + 7 * t) : ∀ n k (m : Nat → Nat → Int32), xl_clear b t n k m i l = m i l := by
  intro n
  induction n with
  | zero => intro k m; exact close_ne h2
  | succ n ih =>
    intro k m
    unfold xl_clear
    rw [ih]
    exact zx_ne _ _ _ h1
theorem clear_ne {m : Nat → Nat → Int32} {b t i l : Nat} (h : i < b + 10 + 7 * t ∨ b + 17 + 7 * t ≤ i) : x_clear m b t i l = m i l := by
  unfold x_clear
  rw [clearL_ne (by omega) (by omega)]
  simp (disch := omega) only [zx_ne]
theorem clear_2 {m : Nat → Nat → Int32} {b t : Nat} : x_clear m b t (b + 10 + 7 * t) 2 = Int32.ofNat 0 := by
  unfold x_clear
  rw [clearL_ne (by omega) (by omega), zx_nk _ _ (by omega), zx_nk _ _ (by omega), zx_nk _ _ (by omega), zx_nk _ _ (by omega), zx_nk _ _ (by omega), zx_at]
theorem addDeed_ne {m : Nat → Nat → Int32} {b t i l : Nat} {x y : Int32} (h : i < b + 10 + 7 * t ∨ b + 13 + 7 * t ≤ i) : x_addDeed m b t x y i l = m i l := by
  unfold x_addDeed
  refine cndi (fun q : Nat → Nat → Int32 => q i l = m i l) rfl ?_
  simp (disch := omega) only [zx_ne]
theorem addDeed_2 {m : Nat → Nat → Int32} {b t : Nat} {x y : Int32} (h : okm m (b + 10 + 7 * t) 2 24) : okm (x_addDeed m b t x y) (b + 10 + 7 * t) 2 24 := by
  unfold x_addDeed
  refine cnd4 (fun q : Nat → Nat → Int32 => okm q (b + 10 + 7 * t) 2 24) (fun _ => h) (fun h1 => ?_)
  have := h.2
  have := tge_f (by omega) (by omega) h1
  exact okm.is (zx_at _ _ _ _) (by omega) (by omega)
theorem readTerm_YB {T : Nat → Int32} {e : Nat} {m : Nat → Nat → Int32} {p b t : Nat} (hG : XR m T e) (hp : p ≤ e) (hb : b ≤ p) : YB T e (y_readTerm T e m p b t) := by
  have a : ∀ lo hi x, YB T e (Int32.ofNat 1, zm2 m (43 + 3) t x, (y_readNumber T e p lo hi).2.1, (y_readNumber T e p lo hi).2.2) := fun lo hi x => YB.num (hG.put _ (by omega)) hp (Or.inr rfl)
  have c : ∀ lo hi, YB T e (Int32.ofNat 0, m, (y_readNumber T e p lo hi).2.1, (y_readNumber T e p lo hi).2.2) := fun lo hi => YB.num hG hp (Or.inl rfl)
  unfold y_readTerm
  exact cnd4 (YB T e) (fun _ => cnd4 (YB T e) (fun _ => a _ _ _) (fun _ => c _ _)) (fun _ => cnd4 (YB T e) (fun _ => cnd4 (YB T e) (fun _ => a _ _ _) (fun _ => c _ _)) (fun _ => YB.mk hG hp hb (Or.inl rfl)))
theorem readTrustL_XR {T : Nat → Int32} {e : Nat} {v : Int32} : ∀ (n l : Nat) (m : Nat → Nat → Int32), l + n = 4 → XR m T e → XR (yl_readTrust v n l m).2 T e ∧ (yl_readTrust v n l m).1 = 1 := by
  intro n
  induction n with
  | zero => intro l m _ h; exact ⟨h, rfl⟩
  | succ n ih => intro l m hk h; exact ih _ _ (by omega) (h.put _ (by omega))
theorem readTrust_YB {T : Nat → Int32} {e : Nat} {m : Nat → Nat → Int32} {p : Nat} (hG : XR m T e) (hp : p ≤ e) : YB T e (y_readTrust T e m p) := by
  unfold y_readTrust
  refine cnd4 (YB T e) (fun _ => ?_) (fun _ => YB.num hG hp (Or.inl rfl))
  have h := readTrustL_XR (T := T) (e := e) (v := (y_readNumber T e p (Int32.ofNat 0) (Int32.ofNat 15)).1) 4 0 m rfl hG
  exact YB.num h.1 hp (Or.inr h.2)
theorem readWord_YB {T : Nat → Int32} {e : Nat} {m : Nat → Nat → Int32} {p : Nat} (hG : XR m T e) (hp : p ≤ e) : YB T e (y_readWord T e m p) := by
  have h1 := (ynum_le (T := T) (lo := Int32.ofNat 0) (hi := Int32.ofNat 31) hG.2.2 hp).2.1
  unfold y_readWord
  exact cnd4 (YB T e) (fun _ => cnd4 (YB T e) (fun _ => YB.num ((hG.put _ (by omega)).put _ (by omega)) h1 (Or.inr rfl)) (fun _ => YB.num hG h1 (Or.inl rfl))) (fun _ => YB.num hG hp (Or.inl rfl))
theorem readLock_YB {T : Nat → Int32} {e : Nat} {m : Nat → Nat → Int32} {p : Nat} (hG : XR m T e) (hp : p ≤ e) : YB T e (y_readLock T e m p) := by
  have h1 := (ynum_le (T := T) (lo := Int32.ofNat 0) (hi := Int32.ofNat 3) hG.2.2 hp).2.1
  have h2 := yname_le (T := T) (s := 1) hG.2.2 h1
  unfold y_readLock
  refine cnd4 (YB T e) (fun _ => YB.num hG hp (Or.inl rfl)) (fun k1 => cnd4 (YB T e) (fun _ => cnd4 (YB T e) (fun _ => YB.num hG h2.1 (Or.inl rfl)) (fun _ => cnd4 (YB T e) (fun _ => ?_) (fun _ => YB.num hG h2.1 (Or.inl rfl)))) (fun _ => YB.mk hG h2.1 h2.2 (Or.inl rfl)))
  have := ynum_k (by omega) (by omega) (zeq_f k1)
  exact YB.num (hG.put _ (by omega)) h2.1 (Or.inr rfl)
theorem readDeed_YB {T : Nat → Int32} {e : Nat} {m : Nat → Nat → Int32} {p t : Nat} (hG : XR m T e) (hp : p ≤ e) (ht : t < 4) (hdd : okm m (43 + 10 + 7 * t) 2 24) : YB T e (y_readDeed T e m p t) ∧ okm (y_readDeed T e m p t).2.1 (43 + 10 + 7 * t) 2 24 := by
  have h1 := yname_le (T := T) (s := 2) hG.2.2 hp
  have hx : ∀ x y, XR (x_addDeed m 43 t x y) T e := fun x y => hG.same (fun i l a1 a2 => addDeed_ne (by omega))
  have ho : ∀ x y, okm (x_addDeed m 43 t x y) (43 + 10 + 7 * t) 2 24 := fun x y => addDeed_2 hdd
  unfold y_readDeed
  refine cnd4 (fun X => YB T e X ∧ okm X.2.1 (43 + 10 + 7 * t) 2 24) (fun _ => ⟨YB.mk hG h1.1 h1.2 (Or.inl rfl), hdd⟩) (fun _ => cnd4 (fun X => YB T e X ∧ okm X.2.1 (43 + 10 + 7 * t) 2 24) (fun _ => cnd4 (fun X => YB T e X ∧ okm X.2.1 (43 + 10 + 7 * t) 2 24) (fun _ => cnd4 (fun X => YB T e X ∧ okm X.2.1 (43 + 10 + 7 * t) 2 24) (fun _ => ⟨YB.num (hx _ _) h1.1 (Or.inr rfl), ho _ _⟩) (fun _ => ⟨YB.num hG h1.1 (Or.inl rfl), hdd⟩)) (fun _ => ⟨YB.mk (hx _ _) h1.1 h1.2 (Or.inr rfl), ho _ _⟩)) (fun _ => ⟨YB.mk hG h1.1 h1.2 (Or.inl rfl), hdd⟩))
def yl_prog (T : (Nat → Int32)) (e : Nat) (t : Nat) : Nat → Nat → (Nat → Nat → Int32) → Nat → Nat → Int32 × (Nat → Nat → Int32) × Nat × Nat
  | 0, k, m, p, b => ((Int32.ofNat 0), m, (lkB T e p), (lkB T e p))
  | n + 1, k, m, p, b => (bif zc1 .ne (y_readDeed T e m p t).1 then (bif zc1 .ne (y_skipSign T e ((lkB T e ((y_readDeed T e m p t).2.2.1))) 44).1 then (yl_prog T e t n ((k + 1)) ((y_readDeed T e m p t).2.1) ((y_skipSign T e ((lkB T e ((y_readDeed T e m p t).2.2.1))) 44).2) ((lkB T e ((y_readDeed T e m p t).2.2.1)))) else ((Int32.ofNat 1), (y_readDeed T e m p t).2.1, (y_skipSign T e ((lkB T e ((y_readDeed T e m p t).2.2.1))) 44).2, (lkB T e ((y_readDeed T e m p t).2.2.1)))) else ((Int32.ofNat 0), (y_readDeed T e m p t).2.1, (y_readDeed T e m p t).2.2.1, (y_readDeed T e m p t).2.2.2))
theorem yw_prog {σ : Nat → Nat × (Nat → Int32)} {yy : (Nat → Nat → Int64) × Bool × Nat × Nat} {T : Nat → Int32} {e : Nat} {t : Nat} {d : Nat} (hd : 4 ≤ d + 1) (ht : t < 4) (hs : ZS σ) : ∀ (n : Nat) (k : Nat) (m : (Nat → Nat → Int32)) (p : Nat) (b : Nat), k + n = 24 → (XR m T e) → (p ≤ e) → (okm m (43 + 10 + 7 * t) 2 24) → zEv σ (d + 1) 1007 47 [some (.ref 128), some (.ref (43 + 10 + 7 * t)), some (.int (Int32.ofNat k))] [] (zS1, XP m p b, yy) (.inl (some (.int (yl_prog T e t n k m p b).1))) (zS1, XP ((yl_prog T e t n k m p b).2.1) ((yl_prog T e t n k m p b).2.2.1) ((yl_prog T e t n k m p b).2.2.2), yy) := by
  intro n
  induction n with
  | zero =>
    intro k m p b hk hG hp hdd
    refine zeP rfl rfl ?_
    refine zeKn (c := 24) rfl rfl rfl ?_
    refine zeT2 rfl rfl (zcge (by omega) (by omega) (by omega)) ?_
    refine zeP rfl rfl ?_
    refine zeCV rfl rfl rfl rfl zS128 rfl (yc_look (m := m) (p := p) (b := b) (T := T) (e := e) hG hp) (by omega) ?_
    dsimp only [Option.toList, List.cons_append, List.nil_append]
    refine zeKn (c := 0) rfl rfl rfl ?_
    exact zeRe rfl rfl rfl rfl (by rfl) (by rfl)
  | succ n ih =>
    intro k m p b hk hG hp hdd
    refine zeP rfl rfl ?_
    refine zeKn (c := 24) rfl rfl rfl ?_
    refine zeF2 rfl rfl (zcge_f (by omega) (by omega) (by omega)) ?_
    refine zeP rfl rfl ?_
    refine zeP rfl rfl ?_
    refine zeCV rfl rfl rfl rfl zS128 rfl (yc_readDeed (t := t) (T := T) (e := e) (m := m) (p := p) (b := b) hG hp ht hdd hs) (by omega) ?_
    dsimp only [Option.toList, List.cons_append, List.nil_append]
    refine zeB1 rfl rfl (fun h1 => ?_) (fun h1 => ?_)
    · refine zeP rfl rfl ?_
      refine zeCV rfl rfl rfl rfl zS128 rfl (yc_look (m := (y_readDeed T e m p t).2.1) (p := (y_readDeed T e m p t).2.2.1) (b := (y_readDeed T e m p t).2.2.2) (T := T) (e := e) (readDeed_YB (t := t) hG hp ht hdd).1.1 (readDeed_YB (t := t) hG hp ht hdd).1.2.1) (by omega) ?_
      dsimp only [Option.toList, List.cons_append, List.nil_append]
      refine zeP rfl rfl ?_
      refine zeKn (c := 44) rfl rfl rfl ?_
      refine zeCV rfl rfl rfl rfl zS128 rfl (yc_skipSign (c := 44) (T := T) (e := e) (m := (y_readDeed T e m p t).2.1) (p := (lkB T e ((y_readDeed T e m p t).2.2.1))) (b := (lkB T e ((y_readDeed T e m p t).2.2.1))) (readDeed_YB (t := t) hG hp ht hdd).1.1 (by have := (lkB_le (T := T) hG.2.2 (readDeed_YB (t := t) hG hp ht hdd).1.2.1).2; have := hG.2.2; omega)) (by omega) ?_
      dsimp only [Option.toList, List.cons_append, List.nil_append]
      refine zeB1 rfl rfl (fun h2 => ?_) (fun h2 => ?_)
      · refine zeInc rfl rfl ?_
        refine zeP rfl rfl ?_
        simp only [yl_prog, h1, h2, cond_true, cond_false]
        exact ih ((k + 1)) ((y_readDeed T e m p t).2.1) ((y_skipSign T e ((lkB T e ((y_readDeed T e m p t).2.2.1))) 44).2) ((lkB T e ((y_readDeed T e m p t).2.2.1))) (by omega) (readDeed_YB (t := t) hG hp ht hdd).1.1 (yskip_le hG.2.2 (lkB_le (T := T) hG.2.2 (readDeed_YB (t := t) hG hp ht hdd).1.2.1).2).2 (readDeed_YB (t := t) hG hp ht hdd).2
      · refine zeKn (c := 1) rfl rfl rfl ?_
        exact zeRe rfl rfl rfl rfl (by simp only [yl_prog, h1, h2, cond_true, cond_false] <;> rfl) (by simp only [yl_prog, h1, h2, cond_true, cond_false] <;> rfl)
    · refine zeKn (c := 0) rfl rfl rfl ?_
      exact zeRe rfl rfl rfl rfl (by simp only [yl_prog, h1, cond_true, cond_false] <;> rfl) (by simp only [yl_prog, h1, cond_true, cond_false] <;> rfl)
theorem zlt_t4 {a b : Nat} (ha : a ≤ 100000) (hb : b ≤ 100000) (h : zc2 .lt (Int32.ofNat a) (Int32.ofNat b) = true) : a < b := by
  have h1 := of_decide_eq_true h
  rw [Int32.lt_iff_toInt_lt, zoN (by omega), zoN (by omega)] at h1
  omega
def y_readProgram (T : (Nat → Int32)) (e : Nat) (m : (Nat → Nat → Int32)) (p : Nat) (b : Nat) : Int32 × (Nat → Nat → Int32) × Nat × Nat := (bif zc2 .lt (Int32.ofNat (mv m 43 5)) (Int32.ofNat 4) then (yl_prog T e (((mv m 43 5))) 24 0 ((zm2 ((x_clear m 43 (((mv m 43 5))))) 43 5 (Int32.ofNat ((mv m 43 5) + 1)))) p b) else ((Int32.ofNat 0), m, p, b))
theorem yp_readProgram {σ : Nat → Nat × (Nat → Int32)} {yy : (Nat → Nat → Int64) × Bool × Nat × Nat} {m : Nat → Nat → Int32} {p b : Nat} {T : Nat → Int32} {e : Nat} {d : Nat} (hd : 4 ≤ d + 1) (hG : XR m T e) (hp : p ≤ e) (hc : okm m 43 5 4) (hs : ZS σ) : zEv σ (d + 1) 1007 0 [some (.ref 128), none, none] [] (zS1, XP m p b, yy) (.inl (some (.int (y_readProgram T e m p b).1))) (zS1, XP ((y_readProgram T e m p b).2.1) ((y_readProgram T e m p b).2.2.1) ((y_readProgram T e m p b).2.2.2), yy) := by
  refine zeP rfl rfl ?_
  refine zeGR rfl rfl zS128 rfl rfl ?_
  refine zeXGI (a := 43) (by first | decide | omega) rfl rfl (shM bb43) rfl rfl ?_
  rw [hc.1]
  refine zeKn (c := 4) rfl rfl rfl ?_
  refine zeB2 rfl rfl (fun h1 => ?_) (fun h1 => ?_)
  · have hlt : mv m 43 5 < 4 := zlt_t4 (by have := hc.2; omega) (by omega) h1
    refine zeP rfl rfl ?_
    refine zeGR rfl rfl zS128 rfl rfl ?_
    refine zeP rfl rfl ?_
    refine zeGR rfl rfl zS128 rfl rfl ?_
    refine zeXGI (a := 43) (by first | decide | omega) rfl rfl (shM bb43) rfl rfl ?_
    rw [hc.1]
    refine zeCV rfl rfl rfl rfl (shM bb43) rfl (yc_strandAt (m := m) (p := p) (b := b) (t := (mv m 43 5)) hlt) (by omega) ?_
    dsimp only [Option.toList, List.cons_append, List.nil_append]
    refine zeP rfl rfl ?_
    refine zeP rfl rfl ?_
    refine zeCV rfl rfl rfl rfl (shS bb43 (by omega)) rfl (yc_clear (m := m) (p := p) (b := b) (t := ((mv m 43 5))) hlt) (by omega) ?_
    dsimp only [Option.toList, List.cons_append, List.nil_append]
    refine zeP rfl rfl ?_
    refine zeGR rfl rfl zS128 rfl rfl ?_
    refine zeP rfl rfl ?_
    refine zeXGI (a := 43) (by first | decide | omega) rfl rfl (shM bb43) rfl rfl ?_
    rw [(show (((x_clear m 43 (((mv m 43 5))))) 43 5) = Int32.ofNat (mv m 43 5) from (by rw [clear_ne (by have := zlt_t4 (a := mv m 43 5) (b := 4) (by have := hc.2; omega) (by omega) h1; omega)]; exact hc.1))]
    refine zeKn (c := 1) rfl rfl rfl ?_
    refine zeAdd rfl ?_
    refine zeXPI (a := 43) (by first | decide | omega) rfl rfl (shM bb43) rfl ?_
    refine zeKn (c := 0) rfl rfl rfl ?_
    refine zeP rfl rfl ?_
    simp only [y_readProgram, h1, cond_true, cond_false]
    exact yw_prog (t := ((mv m 43 5))) (T := T) (e := e) (by omega) (zlt_t4 (by have := hc.2; omega) (by omega) h1) hs 24 (0) ((zm2 ((x_clear m 43 (((mv m 43 5))))) 43 5 (Int32.ofNat ((mv m 43 5) + 1)))) p b (by omega) ((hG.same (fun i l a1 a2 => clear_ne (by have := hc.2; omega))).put _ (by omega)) hp (okm.is (n := 0) (by rw [zx_ne _ _ _ (by omega)]; exact clear_2) (by omega) (by omega))
  · refine zeKn (c := 0) rfl rfl rfl ?_
    exact zeRe rfl rfl rfl rfl (by simp only [y_readProgram, h1, cond_true, cond_false] <;> rfl) (by simp only [y_readProgram, h1, cond_true, cond_false] <;> rfl)
theorem yc_readProgram {σ : Nat → Nat × (Nat → Int32)} {yy : (Nat → Nat → Int64) × Bool × Nat × Nat} {m : Nat → Nat → Int32} {p b : Nat} {T : Nat → Int32} {e : Nat} (hG : XR m T e) (hp : p ≤ e) (hc : okm m 43 5 4) (hs : ZS σ) : zF σ 4 1007 [.ref 128] (zS1, XP m p b, yy) (.inl (some (.int (y_readProgram T e m p b).1))) (zS1, XP ((y_readProgram T e m p b).2.1) ((y_readProgram T e m p b).2.2.1) ((y_readProgram T e m p b).2.2.2), yy) := by
  intro d hd
  obtain ⟨d, rfl⟩ : ∃ k, d = k + 1 := ⟨d - 1, by omega⟩
  exact yp_readProgram hd hG hp hc hs
