theorem CG.seto {m : Nat → Nat → Int32} {b n : Nat} (h : CG m b) (hn : n ≤ 20) : CG (zm2 m b 12 (Int32.ofNat n)) b :=
  ⟨h.1.of (zx_ne _ _ _ (by omega)), h.2.1.of (zx_nk _ _ (by omega)), fun u hu => ⟨(h.2.2.1 u hu).1.of (zx_ne _ _ _ (by omega)), fun k hk => ((h.2.2.1 u hu).2 k hk).of (zx_ne _ _ _ (by omega))⟩, okm.is (zx_at _ _ _ _) hn (by omega), fun l hl => (h.2.2.2.2 l hl).of (zx_ne _ _ _ (by omega))⟩
theorem CG.putOut {m : Nat → Nat → Int32} {b t : Nat} (h : CG m b) (ht : t < 4) : CG (x_putOut m b t).2 b := by
  unfold x_putOut
  have f3 := h.fall ht (show 3 < 5 by omega)
  generalize x_fall m b t 3 = c3 at f3 ⊢
  refine cndi (fun q : QM => CG q.2 b) (cndh (fun q : QM => CG q.2 b) (fun _ => h.logAdd _ _ _ _) (fun hc => CG.logAdd ?_ _ _ _ _)) f3
  have ho := h.2.2.2.1
  have hlt := zge_lt (by have := ho.2; omega) (by omega) hc
  have h5 : CG (zm2 (zm2 m (b + 38) (mv m b 12) (Int32.ofNat t)) (b + 39) (mv m b 12) (zm2 m (b + 38) (mv m b 12) (Int32.ofNat t) (b + 10 + 7 * t) 4)) b := (h.put _ ncO.1).put _ ncO.2
  have e : zm2 (zm2 m (b + 38) (mv m b 12) (Int32.ofNat t)) (b + 39) (mv m b 12) (zm2 m (b + 38) (mv m b 12) (Int32.ofNat t) (b + 10 + 7 * t) 4) b 12 + Int32.ofNat 1 = Int32.ofNat (mv m b 12 + 1) := by
    rw [zx_ne _ _ _ (by omega), zx_ne _ _ _ (by omega), Int32.ofNat_add, ← ho.1]
  rw [e]
  exact h5.seto (by omega)
theorem CG.moveOn {m : Nat → Nat → Int32} {b t : Nat} (h : CG m b) (ht : t < 4) : CG (x_moveOn m b t).2 b := by
  unfold x_moveOn
  have h1 : CG (zm2 (zm2 m (b + 10 + 7 * t) 3 (m (b + 10 + 7 * t) 3 + Int32.ofNat 1)) (b + 10 + 7 * t) 7 (Int32.ofNat 0)) b := (h.put _ (ncS ht)).put _ (ncS ht)
  generalize zm2 (zm2 m (b + 10 + 7 * t) 3 (m (b + 10 + 7 * t) 3 + Int32.ofNat 1)) (b + 10 + 7 * t) 7 (Int32.ofNat 0) = m1 at h1 ⊢
  exact cndi (fun q : QM => CG q.2 b) (cndi (fun q : QM => CG q.2 b) (h1.logAdd _ _ _ _) (h1.fall ht (by omega))) h1
noncomputable def x_stepE (m : Nat → Nat → Int32) (b : Nat) (t : Nat) (r : Int32) : Int32 × (Nat → Nat → Int32) := (bif zc2 .ne r (Int32.ofNat 1) then (r, (zm2 ((zm2 m b 7 ((m b 7) + (Int32.ofNat 1)))) b 8 (Int32.ofNat t))) else ((x_moveOn m b t).1, (zm2 ((zm2 ((x_moveOn m b t).2) b 7 ((((x_moveOn m b t).2) b 7) + (Int32.ofNat 1)))) b 8 (Int32.ofNat t))))
theorem xp_stepE {σ : Nat → Nat × (Nat → Int32)} {yy : (Nat → Nat → Int64) × Bool × Nat × Nat} {m : Nat → Nat → Int32} {b : Nat} {t : Nat} {x3 : Option Value} {r : Int32} {d : Nat} (hd : 4 ≤ d + 1) (hb : BB b) (hc : CG m b) (ht : t < 4) : zEv σ (d + 1) 611 183 [some (.ref b), some (.int (Int32.ofNat t)), some (.ref (b + 10 + 7 * t)), x3, some (.int r)] [] (zS1, m, yy) (.inl (some (.int (x_stepE m b t r).1))) (zS1, ((x_stepE m b t r).2), yy) := by
  refine zeP rfl rfl ?_
  refine zeKn (c := 1) rfl rfl rfl ?_
  refine zeB2 rfl rfl (fun h1 => ?_) (fun h1 => ?_)
  · refine zeP rfl rfl ?_
    refine zeP rfl rfl ?_
    refine zeGI rfl rfl (shM hb) rfl rfl ?_
    refine zeKn (c := 1) rfl rfl rfl ?_
    refine zeP rfl rfl ?_
    refine zePI rfl rfl (shM hb) rfl ?_
    refine zeP rfl rfl ?_
    refine zeP rfl rfl ?_
    refine zePI rfl rfl (shM hb) rfl ?_
    refine zeP rfl rfl ?_
    exact zeRe rfl rfl rfl rfl (by simp only [x_stepE, h1, cond_true, cond_false] <;> rfl) (by simp only [x_stepE, h1, cond_true, cond_false] <;> rfl)
  · refine zeP rfl rfl ?_
    refine zeP rfl rfl ?_
    refine zeP rfl rfl ?_
    refine zeCV rfl rfl rfl rfl (shM hb) rfl (xc_moveOn (m := m) (b := b) (t := t) hb hc ht) (by omega) ?_
    dsimp only [Option.toList, List.cons_append, List.nil_append]
    refine zeP rfl rfl ?_
    refine zeP rfl rfl ?_
    refine zeP rfl rfl ?_
    refine zeGI rfl rfl (shM hb) rfl rfl ?_
    refine zeKn (c := 1) rfl rfl rfl ?_
    refine zeP rfl rfl ?_
    refine zePI rfl rfl (shM hb) rfl ?_
    refine zeP rfl rfl ?_
    refine zeP rfl rfl ?_
    refine zePI rfl rfl (shM hb) rfl ?_
    refine zeP rfl rfl ?_
    exact zeRe rfl rfl rfl rfl (by simp only [x_stepE, h1, cond_true, cond_false] <;> rfl) (by simp only [x_stepE, h1, cond_true, cond_false] <;> rfl)
theorem CG.stepE {m : Nat → Nat → Int32} {b t : Nat} {r : Int32} (h : CG m b) (ht : t < 4) : CG (x_stepE m b t r).2 b := by
  unfold x_stepE
  have a := h.moveOn ht
  generalize x_moveOn m b t = c at a ⊢
  exact cndi (fun q : QM => CG q.2 b) ((h.put _ (ncM (by omega) (by omega))).put _ (ncM (by omega) (by omega))) ((a.put _ (ncM (by omega) (by omega))).put _ (ncM (by omega) (by omega)))
noncomputable def x_takeStep0 (m : Nat → Nat → Int32) (b : Nat) (t : Nat) : Int32 × (Nat → Nat → Int32) := (bif zc1 .eq (m ((b + 14 + 7 * t)) 0) then (x_stepE ((x_takePlainly m b t ((mv m (b + 12 + 7 * t) (mv m (b + 10 + 7 * t) 3)))).2) b t ((x_takePlainly m b t ((mv m (b + 12 + 7 * t) (mv m (b + 10 + 7 * t) 3)))).1)) else (x_stepE ((x_takeGuessing m b t ((mv m (b + 12 + 7 * t) (mv m (b + 10 + 7 * t) 3)))).2) b t ((x_takeGuessing m b t ((mv m (b + 12 + 7 * t) (mv m (b + 10 + 7 * t) 3)))).1)))
theorem xp_takeStep0 {σ : Nat → Nat × (Nat → Int32)} {yy : (Nat → Nat → Int64) × Bool × Nat × Nat} {m : Nat → Nat → Int32} {b : Nat} {t : Nat} {d : Nat} (hd : 5 ≤ d + 1) (hb : BB b) (hc : CG m b) (ht : t < 4) (hA : m (b + 10 + 7 * t) 3 = Int32.ofNat (mv m (b + 10 + 7 * t) 3)) (hA24 : mv m (b + 10 + 7 * t) 3 < 24) (hN : m (b + 12 + 7 * t) (mv m (b + 10 + 7 * t) 3) = Int32.ofNat (mv m (b + 12 + 7 * t) (mv m (b + 10 + 7 * t) 3))) (hK : m (b + 11 + 7 * t) (mv m (b + 10 + 7 * t) 3) = Int32.ofNat 0) (hn : mv m (b + 12 + 7 * t) (mv m (b + 10 + 7 * t) 3) < 4) : zEv σ (d + 1) 611 0 [some (.ref b), some (.int (Int32.ofNat t)), none, none, none] [] (zS1, m, yy) (.inl (some (.int (x_takeStep0 m b t).1))) (zS1, ((x_takeStep0 m b t).2), yy) := by
  refine zeP rfl rfl ?_
  refine zeP rfl rfl ?_
  refine zeCV rfl rfl rfl rfl (shM hb) rfl (xc_strandAt (m := m) (b := b) (t := t) hb ht) (by omega) ?_
  dsimp only [Option.toList, List.cons_append, List.nil_append]
  refine zeP rfl rfl ?_
  refine zeP rfl rfl ?_
  refine zeP rfl rfl ?_
  refine zeGI rfl rfl (shS hb (by omega)) rfl rfl ?_
  rw [hA]
  refine zeCV rfl rfl rfl rfl (shS hb (by omega)) rfl (xc_numberAt (m := m) (b := b) (t := t) (p := (mv m (b + 10 + 7 * t) 3)) hb ht hA24) (by omega) ?_
  dsimp only [Option.toList, List.cons_append, List.nil_append]
  rw [show x_numberAt m b t (mv m (b + 10 + 7 * t) 3) = Int32.ofNat (mv m (b + 12 + 7 * t) (mv m (b + 10 + 7 * t) 3)) from hN]
  refine zeP rfl rfl ?_
  refine zeKn (c := 1) rfl rfl rfl ?_
  refine zeP rfl rfl ?_
  refine zeP rfl rfl ?_
  refine zeP rfl rfl ?_
  refine zeGI rfl rfl (shS hb (by omega)) rfl rfl ?_
  rw [hA]
  refine zeCV rfl rfl rfl rfl (shS hb (by omega)) rfl (xc_kindAt (m := m) (b := b) (t := t) (p := (mv m (b + 10 + 7 * t) 3)) hb ht hA24) (by omega) ?_
  dsimp only [Option.toList, List.cons_append, List.nil_append]
  rw [show x_kindAt m b t (mv m (b + 10 + 7 * t) 3) = Int32.ofNat 0 from hK]
  refine zeP rfl rfl ?_
  refine zeP rfl rfl ?_
  refine zeGR rfl rfl (shS hb (by omega)) rfl rfl ?_
  refine zeGI rfl rfl (shG hb (by omega)) rfl rfl ?_
  refine zeB1 rfl rfl (fun h1 => ?_) (fun h1 => ?_)
  · refine zeP rfl rfl ?_
    refine zeP rfl rfl ?_
    refine zeP rfl rfl ?_
    refine zeP rfl rfl ?_
    refine zeCV rfl rfl rfl rfl (shM hb) rfl (xc_takePlainly (m := m) (b := b) (t := t) (l := (mv m (b + 12 + 7 * t) (mv m (b + 10 + 7 * t) 3))) hb hc ht hn) (by omega) ?_
    dsimp only [Option.toList, List.cons_append, List.nil_append]
    refine zeP rfl rfl ?_
    refine zeP rfl rfl ?_
    simp only [x_takeStep0, h1, cond_true, cond_false]
    exact xp_stepE (b := b) (t := t) (x3 := some (.int (Int32.ofNat (mv m (b + 12 + 7 * t) (mv m (b + 10 + 7 * t) 3))))) (r := (x_takePlainly m b t ((mv m (b + 12 + 7 * t) (mv m (b + 10 + 7 * t) 3)))).1) (m := (x_takePlainly m b t ((mv m (b + 12 + 7 * t) (mv m (b + 10 + 7 * t) 3)))).2) (by omega) hb (by first | exact hc.takeGuessing ht hn | exact hc.takePlainly ht hn) ht
  · refine zeP rfl rfl ?_
    refine zeP rfl rfl ?_
    refine zeP rfl rfl ?_
    refine zeP rfl rfl ?_
    refine zeCV rfl rfl rfl rfl (shM hb) rfl (xc_takeGuessing (m := m) (b := b) (t := t) (l := (mv m (b + 12 + 7 * t) (mv m (b + 10 + 7 * t) 3))) hb hc ht hn) (by omega) ?_
    dsimp only [Option.toList, List.cons_append, List.nil_append]
    refine zeP rfl rfl ?_
    refine zeP rfl rfl ?_
    refine zeP rfl rfl ?_
    simp only [x_takeStep0, h1, cond_true, cond_false]
    exact xp_stepE (b := b) (t := t) (x3 := some (.int (Int32.ofNat (mv m (b + 12 + 7 * t) (mv m (b + 10 + 7 * t) 3))))) (r := (x_takeGuessing m b t ((mv m (b + 12 + 7 * t) (mv m (b + 10 + 7 * t) 3)))).1) (m := (x_takeGuessing m b t ((mv m (b + 12 + 7 * t) (mv m (b + 10 + 7 * t) 3)))).2) (by omega) hb (by first | exact hc.takeGuessing ht hn | exact hc.takePlainly ht hn) ht
theorem xc_takeStep0 {σ : Nat → Nat × (Nat → Int32)} {yy : (Nat → Nat → Int64) × Bool × Nat × Nat} {m : Nat → Nat → Int32} {b : Nat} {t : Nat} (hb : BB b) (hc : CG m b) (ht : t < 4) (hA : m (b + 10 + 7 * t) 3 = Int32.ofNat (mv m (b + 10 + 7 * t) 3)) (hA24 : mv m (b + 10 + 7 * t) 3 < 24) (hN : m (b + 12 + 7 * t) (mv m (b + 10 + 7 * t) 3) = Int32.ofNat (mv m (b + 12 + 7 * t) (mv m (b + 10 + 7 * t) 3))) (hK : m (b + 11 + 7 * t) (mv m (b + 10 + 7 * t) 3) = Int32.ofNat 0) (hn : mv m (b + 12 + 7 * t) (mv m (b + 10 + 7 * t) 3) < 4) : zF σ 5 611 [.ref b, .int (Int32.ofNat t)] (zS1, m, yy) (.inl (some (.int (x_takeStep0 m b t).1))) (zS1, ((x_takeStep0 m b t).2), yy) := by
  intro d hd
  obtain ⟨d, rfl⟩ : ∃ k, d = k + 1 := ⟨d - 1, by omega⟩
  exact xp_takeStep0 hd hb hc ht hA hA24 hN hK hn
noncomputable def x_takeStep1 (m : Nat → Nat → Int32) (b : Nat) (t : Nat) : Int32 × (Nat → Nat → Int32) := (x_stepE ((x_dropLock m b t ((mv m (b + 12 + 7 * t) (mv m (b + 10 + 7 * t) 3)))).2) b t ((x_dropLock m b t ((mv m (b + 12 + 7 * t) (mv m (b + 10 + 7 * t) 3)))).1))
theorem xp_takeStep1 {σ : Nat → Nat × (Nat → Int32)} {yy : (Nat → Nat → Int64) × Bool × Nat × Nat} {m : Nat → Nat → Int32} {b : Nat} {t : Nat} {d : Nat} (hd : 5 ≤ d + 1) (hb : BB b) (hc : CG m b) (ht : t < 4) (hA : m (b + 10 + 7 * t) 3 = Int32.ofNat (mv m (b + 10 + 7 * t) 3)) (hA24 : mv m (b + 10 + 7 * t) 3 < 24) (hN : m (b + 12 + 7 * t) (mv m (b + 10 + 7 * t) 3) = Int32.ofNat (mv m (b + 12 + 7 * t) (mv m (b + 10 + 7 * t) 3))) (hK : m (b + 11 + 7 * t) (mv m (b + 10 + 7 * t) 3) = Int32.ofNat 1) (hn : mv m (b + 12 + 7 * t) (mv m (b + 10 + 7 * t) 3) < 4) : zEv σ (d + 1) 611 0 [some (.ref b), some (.int (Int32.ofNat t)), none, none, none] [] (zS1, m, yy) (.inl (some (.int (x_takeStep1 m b t).1))) (zS1, ((x_takeStep1 m b t).2), yy) := by
  refine zeP rfl rfl ?_
  refine zeP rfl rfl ?_
  refine zeCV rfl rfl rfl rfl (shM hb) rfl (xc_strandAt (m := m) (b := b) (t := t) hb ht) (by omega) ?_
  dsimp only [Option.toList, List.cons_append, List.nil_append]
  refine zeP rfl rfl ?_
  refine zeP rfl rfl ?_
  refine zeP rfl rfl ?_
  refine zeGI rfl rfl (shS hb (by omega)) rfl rfl ?_
  rw [hA]
  refine zeCV rfl rfl rfl rfl (shS hb (by omega)) rfl (xc_numberAt (m := m) (b := b) (t := t) (p := (mv m (b + 10 + 7 * t) 3)) hb ht hA24) (by omega) ?_
  dsimp only [Option.toList, List.cons_append, List.nil_append]
  rw [show x_numberAt m b t (mv m (b + 10 + 7 * t) 3) = Int32.ofNat (mv m (b + 12 + 7 * t) (mv m (b + 10 + 7 * t) 3)) from hN]
  refine zeP rfl rfl ?_
  refine zeKn (c := 1) rfl rfl rfl ?_
  refine zeP rfl rfl ?_
  refine zeP rfl rfl ?_
  refine zeP rfl rfl ?_
  refine zeGI rfl rfl (shS hb (by omega)) rfl rfl ?_
  rw [hA]
  refine zeCV rfl rfl rfl rfl (shS hb (by omega)) rfl (xc_kindAt (m := m) (b := b) (t := t) (p := (mv m (b + 10 + 7 * t) 3)) hb ht hA24) (by omega) ?_
  dsimp only [Option.toList, List.cons_append, List.nil_append]
  rw [show x_kindAt m b t (mv m (b + 10 + 7 * t) 3) = Int32.ofNat 1 from hK]
  refine zeP rfl rfl ?_
  refine zeP rfl rfl ?_
  refine zeP rfl rfl ?_
  refine zeP rfl rfl ?_
  refine zeP rfl rfl ?_
  refine zeCV rfl rfl rfl rfl (shM hb) rfl (xc_dropLock (m := m) (b := b) (t := t) (l := (mv m (b + 12 + 7 * t) (mv m (b + 10 + 7 * t) 3))) hb hc ht hn) (by omega) ?_
  dsimp only [Option.toList, List.cons_append, List.nil_append]
  refine zeP rfl rfl ?_
  refine zeP rfl rfl ?_
  simp only [x_takeStep1, cond_true, cond_false]
  exact xp_stepE (b := b) (t := t) (x3 := some (.int (Int32.ofNat (mv m (b + 12 + 7 * t) (mv m (b + 10 + 7 * t) 3))))) (r := (x_dropLock m b t ((mv m (b + 12 + 7 * t) (mv m (b + 10 + 7 * t) 3)))).1) (m := (x_dropLock m b t ((mv m (b + 12 + 7 * t) (mv m (b + 10 + 7 * t) 3)))).2) (by omega) hb (hc.dropLock ht hn) ht
theorem xc_takeStep1 {σ : Nat → Nat × (Nat → Int32)} {yy : (Nat → Nat → Int64) × Bool × Nat × Nat} {m : Nat → Nat → Int32} {b : Nat} {t : Nat} (hb : BB b) (hc : CG m b) (ht : t < 4) (hA : m (b + 10 + 7 * t) 3 = Int32.ofNat (mv m (b + 10 + 7 * t) 3)) (hA24 : mv m (b + 10 + 7 * t) 3 < 24) (hN : m (b + 12 + 7 * t) (mv m (b + 10 + 7 * t) 3) = Int32.ofNat (mv m (b + 12 + 7 * t) (mv m (b + 10 + 7 * t) 3))) (hK : m (b + 11 + 7 * t) (mv m (b + 10 + 7 * t) 3) = Int32.ofNat 1) (hn : mv m (b + 12 + 7 * t) (mv m (b + 10 + 7 * t) 3) < 4) : zF σ 5 611 [.ref b, .int (Int32.ofNat t)] (zS1, m, yy) (.inl (some (.int (x_takeStep1 m b t).1))) (zS1, ((x_takeStep1 m b t).2), yy) := by
  intro d hd
  obtain ⟨d, rfl⟩ : ∃ k, d = k + 1 := ⟨d - 1, by omega⟩
  exact xp_takeStep1 hd hb hc ht hA hA24 hN hK hn
noncomputable def x_takeStep2 (m : Nat → Nat → Int32) (b : Nat) (t : Nat) : Int32 × (Nat → Nat → Int32) := (x_stepE ((x_getWord m b t ((mv m (b + 12 + 7 * t) (mv m (b + 10 + 7 * t) 3)))).2) b t ((x_getWord m b t ((mv m (b + 12 + 7 * t) (mv m (b + 10 + 7 * t) 3)))).1))
theorem xp_takeStep2 {σ : Nat → Nat × (Nat → Int32)} {yy : (Nat → Nat → Int64) × Bool × Nat × Nat} {m : Nat → Nat → Int32} {b : Nat} {t : Nat} {d : Nat} (hd : 5 ≤ d + 1) (hb : BB b) (hc : CG m b) (ht : t < 4) (hA : m (b + 10 + 7 * t) 3 = Int32.ofNat (mv m (b + 10 + 7 * t) 3)) (hA24 : mv m (b + 10 + 7 * t) 3 < 24) (hN : m (b + 12 + 7 * t) (mv m (b + 10 + 7 * t) 3) = Int32.ofNat (mv m (b + 12 + 7 * t) (mv m (b + 10 + 7 * t) 3))) (hK : m (b + 11 + 7 * t) (mv m (b + 10 + 7 * t) 3) = Int32.ofNat 2) (hn : mv m (b + 12 + 7 * t) (mv m (b + 10 + 7 * t) 3) < 32) : zEv σ (d + 1) 611 0 [some (.ref b), some (.int (Int32.ofNat t)), none, none, none] [] (zS1, m, yy) (.inl (some (.int (x_takeStep2 m b t).1))) (zS1, ((x_takeStep2 m b t).2), yy) := by
  refine zeP rfl rfl ?_
  refine zeP rfl rfl ?_
  refine zeCV rfl rfl rfl rfl (shM hb) rfl (xc_strandAt (m := m) (b := b) (t := t) hb ht) (by omega) ?_
  dsimp only [Option.toList, List.cons_append, List.nil_append]
  refine zeP rfl rfl ?_
  refine zeP rfl rfl ?_
  refine zeP rfl rfl ?_
  refine zeGI rfl rfl (shS hb (by omega)) rfl rfl ?_
  rw [hA]
  refine zeCV rfl rfl rfl rfl (shS hb (by omega)) rfl (xc_numberAt (m := m) (b := b) (t := t) (p := (mv m (b + 10 + 7 * t) 3)) hb ht hA24) (by omega) ?_
  dsimp only [Option.toList, List.cons_append, List.nil_append]
  rw [show x_numberAt m b t (mv m (b + 10 + 7 * t) 3) = Int32.ofNat (mv m (b + 12 + 7 * t) (mv m (b + 10 + 7 * t) 3)) from hN]
  refine zeP rfl rfl ?_
  refine zeKn (c := 1) rfl rfl rfl ?_
  refine zeP rfl rfl ?_
  refine zeP rfl rfl ?_
  refine zeP rfl rfl ?_
  refine zeGI rfl rfl (shS hb (by omega)) rfl rfl ?_
  rw [hA]
  refine zeCV rfl rfl rfl rfl (shS hb (by omega)) rfl (xc_kindAt (m := m) (b := b) (t := t) (p := (mv m (b + 10 + 7 * t) 3)) hb ht hA24) (by omega) ?_
  dsimp only [Option.toList, List.cons_append, List.nil_append]
  rw [show x_kindAt m b t (mv m (b + 10 + 7 * t) 3) = Int32.ofNat 2 from hK]
  refine zeP rfl rfl ?_
  refine zeP rfl rfl ?_
  refine zeP rfl rfl ?_
  refine zeP rfl rfl ?_
  refine zeP rfl rfl ?_
  refine zeCV rfl rfl rfl rfl (shM hb) rfl (xc_getWord (m := m) (b := b) (t := t) (w := (mv m (b + 12 + 7 * t) (mv m (b + 10 + 7 * t) 3))) hb hc ht hn) (by omega) ?_
  dsimp only [Option.toList, List.cons_append, List.nil_append]
  refine zeP rfl rfl ?_
  refine zeP rfl rfl ?_
  simp only [x_takeStep2, cond_true, cond_false]
  exact xp_stepE (b := b) (t := t) (x3 := some (.int (Int32.ofNat (mv m (b + 12 + 7 * t) (mv m (b + 10 + 7 * t) 3))))) (r := (x_getWord m b t ((mv m (b + 12 + 7 * t) (mv m (b + 10 + 7 * t) 3)))).1) (m := (x_getWord m b t ((mv m (b + 12 + 7 * t) (mv m (b + 10 + 7 * t) 3)))).2) (by omega) hb (hc.getWord ht) ht
theorem xc_takeStep2 {σ : Nat → Nat × (Nat → Int32)} {yy : (Nat → Nat → Int64) × Bool × Nat × Nat} {m : Nat → Nat → Int32} {b : Nat} {t : Nat} (hb : BB b) (hc : CG m b) (ht : t < 4) (hA : m (b + 10 + 7 * t) 3 = Int32.ofNat (mv m (b + 10 + 7 * t) 3)) (hA24 : mv m (b + 10 + 7 * t) 3 < 24) (hN : m (b + 12 + 7 * t) (mv m (b + 10 + 7 * t) 3) = Int32.ofNat (mv m (b + 12 + 7 * t) (mv m (b + 10 + 7 * t) 3))) (hK : m (b + 11 + 7 * t) (mv m (b + 10 + 7 * t) 3) = Int32.ofNat 2) (hn : mv m (b + 12 + 7 * t) (mv m (b + 10 + 7 * t) 3) < 32) : zF σ 5 611 [.ref b, .int (Int32.ofNat t)] (zS1, m, yy) (.inl (some (.int (x_takeStep2 m b t).1))) (zS1, ((x_takeStep2 m b t).2), yy) := by
  intro d hd
  obtain ⟨d, rfl⟩ : ∃ k, d = k + 1 := ⟨d - 1, by omega⟩
  exact xp_takeStep2 hd hb hc ht hA hA24 hN hK hn
noncomputable def x_takeStep3 (m : Nat → Nat → Int32) (b : Nat) (t : Nat) : Int32 × (Nat → Nat → Int32) := (x_stepE ((x_reach m b t ((mv m (b + 12 + 7 * t) (mv m (b + 10 + 7 * t) 3))) ((m ((b + 10 + 7 * t)) 4))).2) b t ((x_reach m b t ((mv m (b + 12 + 7 * t) (mv m (b + 10 + 7 * t) 3))) ((m ((b + 10 + 7 * t)) 4))).1))
theorem xp_takeStep3 {σ : Nat → Nat × (Nat → Int32)} {yy : (Nat → Nat → Int64) × Bool × Nat × Nat} {m : Nat → Nat → Int32} {b : Nat} {t : Nat} {d : Nat} (hd : 4 ≤ d + 1) (hb : BB b) (hc : CG m b) (ht : t < 4) (hA : m (b + 10 + 7 * t) 3 = Int32.ofNat (mv m (b + 10 + 7 * t) 3)) (hA24 : mv m (b + 10 + 7 * t) 3 < 24) (hN : m (b + 12 + 7 * t) (mv m (b + 10 + 7 * t) 3) = Int32.ofNat (mv m (b + 12 + 7 * t) (mv m (b + 10 + 7 * t) 3))) (hK : m (b + 11 + 7 * t) (mv m (b + 10 + 7 * t) 3) = Int32.ofNat 3) (hn : mv m (b + 12 + 7 * t) (mv m (b + 10 + 7 * t) 3) < 32) : zEv σ (d + 1) 611 0 [some (.ref b), some (.int (Int32.ofNat t)), none, none, none] [] (zS1, m, yy) (.inl (some (.int (x_takeStep3 m b t).1))) (zS1, ((x_takeStep3 m b t).2), yy) := by
  refine zeP rfl rfl ?_
  refine zeP rfl rfl ?_
  refine zeCV rfl rfl rfl rfl (shM hb) rfl (xc_strandAt (m := m) (b := b) (t := t) hb ht) (by omega) ?_
  dsimp only [Option.toList, List.cons_append, List.nil_append]
  refine zeP rfl rfl ?_
  refine zeP rfl rfl ?_
  refine zeP rfl rfl ?_
  refine zeGI rfl rfl (shS hb (by omega)) rfl rfl ?_
  rw [hA]
  refine zeCV rfl rfl rfl rfl (shS hb (by omega)) rfl (xc_numberAt (m := m) (b := b) (t := t) (p := (mv m (b + 10 + 7 * t) 3)) hb ht hA24) (by omega) ?_
  dsimp only [Option.toList, List.cons_append, List.nil_append]
  rw [show x_numberAt m b t (mv m (b + 10 + 7 * t) 3) = Int32.ofNat (mv m (b + 12 + 7 * t) (mv m (b + 10 + 7 * t) 3)) from hN]
  refine zeP rfl rfl ?_
  refine zeKn (c := 1) rfl rfl rfl ?_
  refine zeP rfl rfl ?_
  refine zeP rfl rfl ?_
  refine zeP rfl rfl ?_
  refine zeGI rfl rfl (shS hb (by omega)) rfl rfl ?_
  rw [hA]
  refine zeCV rfl rfl rfl rfl (shS hb (by omega)) rfl (xc_kindAt (m := m) (b := b) (t := t) (p := (mv m (b + 10 + 7 * t) 3)) hb ht hA24) (by omega) ?_
  dsimp only [Option.toList, List.cons_append, List.nil_append]
  rw [show x_kindAt m b t (mv m (b + 10 + 7 * t) 3) = Int32.ofNat 3 from hK]
  refine zeP rfl rfl ?_
  refine zeP rfl rfl ?_
  refine zeP rfl rfl ?_
  refine zeP rfl rfl ?_
  refine zeP rfl rfl ?_
  refine zeGI rfl rfl (shS hb (by omega)) rfl rfl ?_
  refine zeCV rfl rfl rfl rfl (shM hb) rfl (xc_reach (m := m) (b := b) (t := t) (w := (mv m (b + 12 + 7 * t) (mv m (b + 10 + 7 * t) 3))) (v := (m ((b + 10 + 7 * t)) 4)) hb hc ht hn) (by omega) ?_
  dsimp only [Option.toList, List.cons_append, List.nil_append]
  refine zeP rfl rfl ?_
  refine zeP rfl rfl ?_
  simp only [x_takeStep3, cond_true, cond_false]
  exact xp_stepE (b := b) (t := t) (x3 := some (.int (Int32.ofNat (mv m (b + 12 + 7 * t) (mv m (b + 10 + 7 * t) 3))))) (r := (x_reach m b t ((mv m (b + 12 + 7 * t) (mv m (b + 10 + 7 * t) 3))) ((m ((b + 10 + 7 * t)) 4))).1) (m := (x_reach m b t ((mv m (b + 12 + 7 * t) (mv m (b + 10 + 7 * t) 3))) ((m ((b + 10 + 7 * t)) 4))).2) (by omega) hb (hc.reach ht) ht
theorem xc_takeStep3 {σ : Nat → Nat × (Nat → Int32)} {yy : (Nat → Nat → Int64) × Bool × Nat × Nat} {m : Nat → Nat → Int32} {b : Nat} {t : Nat} (hb : BB b) (hc : CG m b) (ht : t < 4) (hA : m (b + 10 + 7 * t) 3 = Int32.ofNat (mv m (b + 10 + 7 * t) 3)) (hA24 : mv m (b + 10 + 7 * t) 3 < 24) (hN : m (b + 12 + 7 * t) (mv m (b + 10 + 7 * t) 3) = Int32.ofNat (mv m (b + 12 + 7 * t) (mv m (b + 10 + 7 * t) 3))) (hK : m (b + 11 + 7 * t) (mv m (b + 10 + 7 * t) 3) = Int32.ofNat 3) (hn : mv m (b + 12 + 7 * t) (mv m (b + 10 + 7 * t) 3) < 32) : zF σ 4 611 [.ref b, .int (Int32.ofNat t)] (zS1, m, yy) (.inl (some (.int (x_takeStep3 m b t).1))) (zS1, ((x_takeStep3 m b t).2), yy) := by
  intro d hd
  obtain ⟨d, rfl⟩ : ∃ k, d = k + 1 := ⟨d - 1, by omega⟩
  exact xp_takeStep3 hd hb hc ht hA hA24 hN hK hn
noncomputable def x_takeStep4 (m : Nat → Nat → Int32) (b : Nat) (t : Nat) : Int32 × (Nat → Nat → Int32) := (x_stepE ((zm2 m ((b + 10 + 7 * t)) 4 (Int32.ofNat (mv m (b + 12 + 7 * t) (mv m (b + 10 + 7 * t) 3))))) b t ((Int32.ofNat 1)))
theorem xp_takeStep4 {σ : Nat → Nat × (Nat → Int32)} {yy : (Nat → Nat → Int64) × Bool × Nat × Nat} {m : Nat → Nat → Int32} {b : Nat} {t : Nat} {d : Nat} (hd : 4 ≤ d + 1) (hb : BB b) (hc : CG m b) (ht : t < 4) (hA : m (b + 10 + 7 * t) 3 = Int32.ofNat (mv m (b + 10 + 7 * t) 3)) (hA24 : mv m (b + 10 + 7 * t) 3 < 24) (hN : m (b + 12 + 7 * t) (mv m (b + 10 + 7 * t) 3) = Int32.ofNat (mv m (b + 12 + 7 * t) (mv m (b + 10 + 7 * t) 3))) (hK : m (b + 11 + 7 * t) (mv m (b + 10 + 7 * t) 3) = Int32.ofNat 4) : zEv σ (d + 1) 611 0 [some (.ref b), some (.int (Int32.ofNat t)), none, none, none] [] (zS1, m, yy) (.inl (some (.int (x_takeStep4 m b t).1))) (zS1, ((x_takeStep4 m b t).2), yy) := by
  refine zeP rfl rfl ?_
  refine zeP rfl rfl ?_
  refine zeCV rfl rfl rfl rfl (shM hb) rfl (xc_strandAt (m := m) (b := b) (t := t) hb ht) (by omega) ?_
  dsimp only [Option.toList, List.cons_append, List.nil_append]
  refine zeP rfl rfl ?_
  refine zeP rfl rfl ?_
  refine zeP rfl rfl ?_
  refine zeGI rfl rfl (shS hb (by omega)) rfl rfl ?_
  rw [hA]
  refine zeCV rfl rfl rfl rfl (shS hb (by omega)) rfl (xc_numberAt (m := m) (b := b) (t := t) (p := (mv m (b + 10 + 7 * t) 3)) hb ht hA24) (by omega) ?_
  dsimp only [Option.toList, List.cons_append, List.nil_append]
  rw [show x_numberAt m b t (mv m (b + 10 + 7 * t) 3) = Int32.ofNat (mv m (b + 12 + 7 * t) (mv m (b + 10 + 7 * t) 3)) from hN]
  refine zeP rfl rfl ?_
  refine zeKn (c := 1) rfl rfl rfl ?_
  refine zeP rfl rfl ?_
  refine zeP rfl rfl ?_
  refine zeP rfl rfl ?_
  refine zeGI rfl rfl (shS hb (by omega)) rfl rfl ?_
  rw [hA]
  refine zeCV rfl rfl rfl rfl (shS hb (by omega)) rfl (xc_kindAt (m := m) (b := b) (t := t) (p := (mv m (b + 10 + 7 * t) 3)) hb ht hA24) (by omega) ?_
  dsimp only [Option.toList, List.cons_append, List.nil_append]
  rw [show x_kindAt m b t (mv m (b + 10 + 7 * t) 3) = Int32.ofNat 4 from hK]
  refine zeP rfl rfl ?_
  refine zeP rfl rfl ?_
  refine zeP rfl rfl ?_
  refine zePI rfl rfl (shS hb (by omega)) rfl ?_
  refine zeP rfl rfl ?_
  simp only [x_takeStep4, cond_true, cond_false]
  exact xp_stepE (b := b) (t := t) (x3 := some (.int (Int32.ofNat (mv m (b + 12 + 7 * t) (mv m (b + 10 + 7 * t) 3))))) (r := (Int32.ofNat 1)) (m := (zm2 m ((b + 10 + 7 * t)) 4 (Int32.ofNat (mv m (b + 12 + 7 * t) (mv m (b + 10 + 7 * t) 3))))) (by omega) hb (hc.put _ (ncS ht)) ht
theorem xc_takeStep4 {σ : Nat → Nat × (Nat → Int32)} {yy : (Nat → Nat → Int64) × Bool × Nat × Nat} {m : Nat → Nat → Int32} {b : Nat} {t : Nat} (hb : BB b) (hc : CG m b) (ht : t < 4) (hA : m (b + 10 + 7 * t) 3 = Int32.ofNat (mv m (b + 10 + 7 * t) 3)) (hA24 : mv m (b + 10 + 7 * t) 3 < 24) (hN : m (b + 12 + 7 * t) (mv m (b + 10 + 7 * t) 3) = Int32.ofNat (mv m (b + 12 + 7 * t) (mv m (b + 10 + 7 * t) 3))) (hK : m (b + 11 + 7 * t) (mv m (b + 10 + 7 * t) 3) = Int32.ofNat 4) : zF σ 4 611 [.ref b, .int (Int32.ofNat t)] (zS1, m, yy) (.inl (some (.int (x_takeStep4 m b t).1))) (zS1, ((x_takeStep4 m b t).2), yy) := by
  intro d hd
  obtain ⟨d, rfl⟩ : ∃ k, d = k + 1 := ⟨d - 1, by omega⟩
  exact xp_takeStep4 hd hb hc ht hA hA24 hN hK
noncomputable def x_takeStep5 (m : Nat → Nat → Int32) (b : Nat) (t : Nat) : Int32 × (Nat → Nat → Int32) := (x_stepE ((zm2 m ((b + 10 + 7 * t)) 4 (((m ((b + 10 + 7 * t)) 4) + (Int32.ofNat (mv m (b + 12 + 7 * t) (mv m (b + 10 + 7 * t) 3)))) - ((m ((b + 10 + 7 * t)) 4) + (Int32.ofNat (mv m (b + 12 + 7 * t) (mv m (b + 10 + 7 * t) 3)))) / (Int32.ofNat 10000) * (Int32.ofNat 10000)))) b t ((Int32.ofNat 1)))
theorem xp_takeStep5 {σ : Nat → Nat × (Nat → Int32)} {yy : (Nat → Nat → Int64) × Bool × Nat × Nat} {m : Nat → Nat → Int32} {b : Nat} {t : Nat} {d : Nat} (hd : 4 ≤ d + 1) (hb : BB b) (hc : CG m b) (ht : t < 4) (hA : m (b + 10 + 7 * t) 3 = Int32.ofNat (mv m (b + 10 + 7 * t) 3)) (hA24 : mv m (b + 10 + 7 * t) 3 < 24) (hN : m (b + 12 + 7 * t) (mv m (b + 10 + 7 * t) 3) = Int32.ofNat (mv m (b + 12 + 7 * t) (mv m (b + 10 + 7 * t) 3))) (hK : m (b + 11 + 7 * t) (mv m (b + 10 + 7 * t) 3) = Int32.ofNat 5) : zEv σ (d + 1) 611 0 [some (.ref b), some (.int (Int32.ofNat t)), none, none, none] [] (zS1, m, yy) (.inl (some (.int (x_takeStep5 m b t).1))) (zS1, ((x_takeStep5 m b t).2), yy) := by
  refine zeP rfl rfl ?_
  refine zeP rfl rfl ?_
  refine zeCV rfl rfl rfl rfl (shM hb) rfl (xc_strandAt (m := m) (b := b) (t := t) hb ht) (by omega) ?_
  dsimp only [Option.toList, List.cons_append, List.nil_append]
  refine zeP rfl rfl ?_
  refine zeP rfl rfl ?_
  refine zeP rfl rfl ?_
  refine zeGI rfl rfl (shS hb (by omega)) rfl rfl ?_
  rw [hA]
  refine zeCV rfl rfl rfl rfl (shS hb (by omega)) rfl (xc_numberAt (m := m) (b := b) (t := t) (p := (mv m (b + 10 + 7 * t) 3)) hb ht hA24) (by omega) ?_
  dsimp only [Option.toList, List.cons_append, List.nil_append]
  rw [show x_numberAt m b t (mv m (b + 10 + 7 * t) 3) = Int32.ofNat (mv m (b + 12 + 7 * t) (mv m (b + 10 + 7 * t) 3)) from hN]
  refine zeP rfl rfl ?_
  refine zeKn (c := 1) rfl rfl rfl ?_
  refine zeP rfl rfl ?_
  refine zeP rfl rfl ?_
  refine zeP rfl rfl ?_
  refine zeGI rfl rfl (shS hb (by omega)) rfl rfl ?_
  rw [hA]
  refine zeCV rfl rfl rfl rfl (shS hb (by omega)) rfl (xc_kindAt (m := m) (b := b) (t := t) (p := (mv m (b + 10 + 7 * t) 3)) hb ht hA24) (by omega) ?_
  dsimp only [Option.toList, List.cons_append, List.nil_append]
  rw [show x_kindAt m b t (mv m (b + 10 + 7 * t) 3) = Int32.ofNat 5 from hK]
  refine zeP rfl rfl ?_
  refine zeP rfl rfl ?_
  refine zeP rfl rfl ?_
  refine zeGI rfl rfl (shS hb (by omega)) rfl rfl ?_
  refine zeP rfl rfl ?_
  refine zeP rfl rfl ?_
  refine zeKn (c := 10000) rfl rfl rfl ?_
  refine zeRem rfl (by decide) ?_
  refine zePI rfl rfl (shS hb (by omega)) rfl ?_
  refine zeP rfl rfl ?_
  simp only [x_takeStep5, cond_true, cond_false]
  exact xp_stepE (b := b) (t := t) (x3 := some (.int (Int32.ofNat (mv m (b + 12 + 7 * t) (mv m (b + 10 + 7 * t) 3))))) (r := (Int32.ofNat 1)) (m := (zm2 m ((b + 10 + 7 * t)) 4 (((m ((b + 10 + 7 * t)) 4) + (Int32.ofNat (mv m (b + 12 + 7 * t) (mv m (b + 10 + 7 * t) 3)))) - ((m ((b + 10 + 7 * t)) 4) + (Int32.ofNat (mv m (b + 12 + 7 * t) (mv m (b + 10 + 7 * t) 3)))) / (Int32.ofNat 10000) * (Int32.ofNat 10000)))) (by omega) hb (hc.put _ (ncS ht)) ht
theorem xc_takeStep5 {σ : Nat → Nat × (Nat → Int32)} {yy : (Nat → Nat → Int64) × Bool × Nat × Nat} {m : Nat → Nat → Int32} {b : Nat} {t : Nat} (hb : BB b) (hc : CG m b) (ht : t < 4) (hA : m (b + 10 + 7 * t) 3 = Int32.ofNat (mv m (b + 10 + 7 * t) 3)) (hA24 : mv m (b + 10 + 7 * t) 3 < 24) (hN : m (b + 12 + 7 * t) (mv m (b + 10 + 7 * t) 3) = Int32.ofNat (mv m (b + 12 + 7 * t) (mv m (b + 10 + 7 * t) 3))) (hK : m (b + 11 + 7 * t) (mv m (b + 10 + 7 * t) 3) = Int32.ofNat 5) : zF σ 4 611 [.ref b, .int (Int32.ofNat t)] (zS1, m, yy) (.inl (some (.int (x_takeStep5 m b t).1))) (zS1, ((x_takeStep5 m b t).2), yy) := by
  intro d hd
  obtain ⟨d, rfl⟩ : ∃ k, d = k + 1 := ⟨d - 1, by omega⟩
  exact xp_takeStep5 hd hb hc ht hA hA24 hN hK
theorem work_ok {m : Nat → Nat → Int32} {b t : Nat} {n : Int32} (h : CG m b) (ht : t < 4) : CG (x_goOnWorking m b t n).2 b := by
  unfold x_goOnWorking
  exact cndi (fun q : QM => CG q.2 b) (h.put _ (ncS ht)) (h.put _ (ncS ht))
noncomputable def x_takeStep6 (m : Nat → Nat → Int32) (b : Nat) (t : Nat) : Int32 × (Nat → Nat → Int32) := (x_stepE ((x_goOnWorking m b t ((Int32.ofNat (mv m (b + 12 + 7 * t) (mv m (b + 10 + 7 * t) 3))))).2) b t ((x_goOnWorking m b t ((Int32.ofNat (mv m (b + 12 + 7 * t) (mv m (b + 10 + 7 * t) 3))))).1))
theorem xp_takeStep6 {σ : Nat → Nat × (Nat → Int32)} {yy : (Nat → Nat → Int64) × Bool × Nat × Nat} {m : Nat → Nat → Int32} {b : Nat} {t : Nat} {d : Nat} (hd : 4 ≤ d + 1) (hb : BB b) (hc : CG m b) (ht : t < 4) (hA : m (b + 10 + 7 * t) 3 = Int32.ofNat (mv m (b + 10 + 7 * t) 3)) (hA24 : mv m (b + 10 + 7 * t) 3 < 24) (hN : m (b + 12 + 7 * t) (mv m (b + 10 + 7 * t) 3) = Int32.ofNat (mv m (b + 12 + 7 * t) (mv m (b + 10 + 7 * t) 3))) (hK : m (b + 11 + 7 * t) (mv m (b + 10 + 7 * t) 3) = Int32.ofNat 6) : zEv σ (d + 1) 611 0 [some (.ref b), some (.int (Int32.ofNat t)), none, none, none] [] (zS1, m, yy) (.inl (some (.int (x_takeStep6 m b t).1))) (zS1, ((x_takeStep6 m b t).2), yy) := by
  refine zeP rfl rfl ?_
  refine zeP rfl rfl ?_
  refine zeCV rfl rfl rfl rfl (shM hb) rfl (xc_strandAt (m := m) (b := b) (t := t) hb ht) (by omega) ?_
  dsimp only [Option.toList, List.cons_append, List.nil_append]
  refine zeP rfl rfl ?_
  refine zeP rfl rfl ?_
  refine zeP rfl rfl ?_
  refine zeGI rfl rfl (shS hb (by omega)) rfl rfl ?_
  rw [hA]
  refine zeCV rfl rfl rfl rfl (shS hb (by omega)) rfl (xc_numberAt (m := m) (b := b) (t := t) (p := (mv m (b + 10 + 7 * t) 3)) hb ht hA24) (by omega) ?_
  dsimp only [Option.toList, List.cons_append, List.nil_append]
  rw [show x_numberAt m b t (mv m (b + 10 + 7 * t) 3) = Int32.ofNat (mv m (b + 12 + 7 * t) (mv m (b + 10 + 7 * t) 3)) from hN]
  refine zeP rfl rfl ?_
  refine zeKn (c := 1) rfl rfl rfl ?_
  refine zeP rfl rfl ?_
  refine zeP rfl rfl ?_
  refine zeP rfl rfl ?_
  refine zeGI rfl rfl (shS hb (by omega)) rfl rfl ?_
  rw [hA]
  refine zeCV rfl rfl rfl rfl (shS hb (by omega)) rfl (xc_kindAt (m := m) (b := b) (t := t) (p := (mv m (b + 10 + 7 * t) 3)) hb ht hA24) (by omega) ?_
  dsimp only [Option.toList, List.cons_append, List.nil_append]
  rw [show x_kindAt m b t (mv m (b + 10 + 7 * t) 3) = Int32.ofNat 6 from hK]
  refine zeP rfl rfl ?_
  refine zeP rfl rfl ?_
  refine zeP rfl rfl ?_
  refine zeP rfl rfl ?_
  refine zeCV rfl rfl rfl rfl (shM hb) rfl (xc_goOnWorking (m := m) (b := b) (t := t) (n := (Int32.ofNat (mv m (b + 12 + 7 * t) (mv m (b + 10 + 7 * t) 3)))) hb ht) (by omega) ?_
  dsimp only [Option.toList, List.cons_append, List.nil_append]
  refine zeP rfl rfl ?_
  refine zeP rfl rfl ?_
  simp only [x_takeStep6, cond_true, cond_false]
  exact xp_stepE (b := b) (t := t) (x3 := some (.int (Int32.ofNat (mv m (b + 12 + 7 * t) (mv m (b + 10 + 7 * t) 3))))) (r := (x_goOnWorking m b t ((Int32.ofNat (mv m (b + 12 + 7 * t) (mv m (b + 10 + 7 * t) 3))))).1) (m := (x_goOnWorking m b t ((Int32.ofNat (mv m (b + 12 + 7 * t) (mv m (b + 10 + 7 * t) 3))))).2) (by omega) hb (work_ok hc ht) ht
theorem xc_takeStep6 {σ : Nat → Nat × (Nat → Int32)} {yy : (Nat → Nat → Int64) × Bool × Nat × Nat} {m : Nat → Nat → Int32} {b : Nat} {t : Nat} (hb : BB b) (hc : CG m b) (ht : t < 4) (hA : m (b + 10 + 7 * t) 3 = Int32.ofNat (mv m (b + 10 + 7 * t) 3)) (hA24 : mv m (b + 10 + 7 * t) 3 < 24) (hN : m (b + 12 + 7 * t) (mv m (b + 10 + 7 * t) 3) = Int32.ofNat (mv m (b + 12 + 7 * t) (mv m (b + 10 + 7 * t) 3))) (hK : m (b + 11 + 7 * t) (mv m (b + 10 + 7 * t) 3) = Int32.ofNat 6) : zF σ 4 611 [.ref b, .int (Int32.ofNat t)] (zS1, m, yy) (.inl (some (.int (x_takeStep6 m b t).1))) (zS1, ((x_takeStep6 m b t).2), yy) := by
  intro d hd
  obtain ⟨d, rfl⟩ : ∃ k, d = k + 1 := ⟨d - 1, by omega⟩
  exact xp_takeStep6 hd hb hc ht hA hA24 hN hK
noncomputable def x_takeStep7 (m : Nat → Nat → Int32) (b : Nat) (t : Nat) : Int32 × (Nat → Nat → Int32) := (x_stepE ((x_putOut m b t).2) b t ((x_putOut m b t).1))
theorem xp_takeStep7 {σ : Nat → Nat × (Nat → Int32)} {yy : (Nat → Nat → Int64) × Bool × Nat × Nat} {m : Nat → Nat → Int32} {b : Nat} {t : Nat} {d : Nat} (hd : 4 ≤ d + 1) (hb : BB b) (hc : CG m b) (ht : t < 4) (hA : m (b + 10 + 7 * t) 3 = Int32.ofNat (mv m (b + 10 + 7 * t) 3)) (hA24 : mv m (b + 10 + 7 * t) 3 < 24) (hN : m (b + 12 + 7 * t) (mv m (b + 10 + 7 * t) 3) = Int32.ofNat (mv m (b + 12 + 7 * t) (mv m (b + 10 + 7 * t) 3))) (hK : m (b + 11 + 7 * t) (mv m (b + 10 + 7 * t) 3) = Int32.ofNat 7) : zEv σ (d + 1) 611 0 [some (.ref b), some (.int (Int32.ofNat t)), none, none, none] [] (zS1, m, yy) (.inl (some (.int (x_takeStep7 m b t).1))) (zS1, ((x_takeStep7 m b t).2), yy) := by
  refine zeP rfl rfl ?_
  refine zeP rfl rfl ?_
  refine zeCV rfl rfl rfl rfl (shM hb) rfl (xc_strandAt (m := m) (b := b) (t := t) hb ht) (by omega) ?_
  dsimp only [Option.toList, List.cons_append, List.nil_append]
  refine zeP rfl rfl ?_
  refine zeP rfl rfl ?_
  refine zeP rfl rfl ?_
  refine zeGI rfl rfl (shS hb (by omega)) rfl rfl ?_
  rw [hA]
  refine zeCV rfl rfl rfl rfl (shS hb (by omega)) rfl (xc_numberAt (m := m) (b := b) (t := t) (p := (mv m (b + 10 + 7 * t) 3)) hb ht hA24) (by omega) ?_
  dsimp only [Option.toList, List.cons_append, List.nil_append]
  rw [show x_numberAt m b t (mv m (b + 10 + 7 * t) 3) = Int32.ofNat (mv m (b + 12 + 7 * t) (mv m (b + 10 + 7 * t) 3)) from hN]
  refine zeP rfl rfl ?_
  refine zeKn (c := 1) rfl rfl rfl ?_
  refine zeP rfl rfl ?_
  refine zeP rfl rfl ?_
  refine zeP rfl rfl ?_
  refine zeGI rfl rfl (shS hb (by omega)) rfl rfl ?_
  rw [hA]
  refine zeCV rfl rfl rfl rfl (shS hb (by omega)) rfl (xc_kindAt (m := m) (b := b) (t := t) (p := (mv m (b + 10 + 7 * t) 3)) hb ht hA24) (by omega) ?_
  dsimp only [Option.toList, List.cons_append, List.nil_append]
  rw [show x_kindAt m b t (mv m (b + 10 + 7 * t) 3) = Int32.ofNat 7 from hK]
  refine zeP rfl rfl ?_
  refine zeP rfl rfl ?_
  refine zeP rfl rfl ?_
  refine zeP rfl rfl ?_
  refine zeCV rfl rfl rfl rfl (shM hb) rfl (xc_putOut (m := m) (b := b) (t := t) hb hc ht) (by omega) ?_
  dsimp only [Option.toList, List.cons_append, List.nil_append]
  refine zeP rfl rfl ?_
  simp only [x_takeStep7, cond_true, cond_false]
  exact xp_stepE (b := b) (t := t) (x3 := some (.int (Int32.ofNat (mv m (b + 12 + 7 * t) (mv m (b + 10 + 7 * t) 3))))) (r := (x_putOut m b t).1) (m := (x_putOut m b t).2) (by omega) hb (hc.putOut ht) ht
theorem xc_takeStep7 {σ : Nat → Nat × (Nat → Int32)} {yy : (Nat → Nat → Int64) × Bool × Nat × Nat} {m : Nat → Nat → Int32} {b : Nat} {t : Nat} (hb : BB b) (hc : CG m b) (ht : t < 4) (hA : m (b + 10 + 7 * t) 3 = Int32.ofNat (mv m (b + 10 + 7 * t) 3)) (hA24 : mv m (b + 10 + 7 * t) 3 < 24) (hN : m (b + 12 + 7 * t) (mv m (b + 10 + 7 * t) 3) = Int32.ofNat (mv m (b + 12 + 7 * t) (mv m (b + 10 + 7 * t) 3))) (hK : m (b + 11 + 7 * t) (mv m (b + 10 + 7 * t) 3) = Int32.ofNat 7) : zF σ 4 611 [.ref b, .int (Int32.ofNat t)] (zS1, m, yy) (.inl (some (.int (x_takeStep7 m b t).1))) (zS1, ((x_takeStep7 m b t).2), yy) := by
  intro d hd
  obtain ⟨d, rfl⟩ : ∃ k, d = k + 1 := ⟨d - 1, by omega⟩
  exact xp_takeStep7 hd hb hc ht hA hA24 hN hK
