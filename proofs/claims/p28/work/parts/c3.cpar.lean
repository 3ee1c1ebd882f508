def y_readTerm (T : (Nat → Int32)) (e : Nat) (m : (Nat → Nat → Int32)) (p : Nat) (b : Nat) (t : Nat) : Int32 × (Nat → Nat → Int32) × Nat × Nat := (bif zc1 .ne (Int32.ofNat t) then (bif zc2 .ne (y_readNumber T e p (((zla 0).getD t 0)) (((zla 1).getD t 0))).1 (-1) then ((Int32.ofNat 1), (zm2 m ((43 + 3)) t ((y_readNumber T e p (((zla 0).getD t 0)) (((zla 1).getD t 0))).1)), (y_readNumber T e p (((zla 0).getD t 0)) (((zla 1).getD t 0))).2.1, (y_readNumber T e p (((zla 0).getD t 0)) (((zla 1).getD t 0))).2.2) else ((Int32.ofNat 0), m, (y_readNumber T e p (((zla 0).getD t 0)) (((zla 1).getD t 0))).2.1, (y_readNumber T e p (((zla 0).getD t 0)) (((zla 1).getD t 0))).2.2)) else (bif zc1 .le (m 43 5) then (bif zc2 .ne (y_readNumber T e p (((zla 0).getD t 0)) (((zla 1).getD t 0))).1 (-1) then ((Int32.ofNat 1), (zm2 m ((43 + 3)) t ((y_readNumber T e p (((zla 0).getD t 0)) (((zla 1).getD t 0))).1)), (y_readNumber T e p (((zla 0).getD t 0)) (((zla 1).getD t 0))).2.1, (y_readNumber T e p (((zla 0).getD t 0)) (((zla 1).getD t 0))).2.2) else ((Int32.ofNat 0), m, (y_readNumber T e p (((zla 0).getD t 0)) (((zla 1).getD t 0))).2.1, (y_readNumber T e p (((zla 0).getD t 0)) (((zla 1).getD t 0))).2.2)) else ((Int32.ofNat 0), m, p, b)))
theorem yp_readTerm {σ : Nat → Nat × (Nat → Int32)} {yy : (Nat → Nat → Int64) × Bool × Nat × Nat} {m : Nat → Nat → Int32} {p b : Nat} {T : Nat → Int32} {e : Nat} {t : Nat} {d : Nat} (hd : 3 ≤ d + 1) (hG : XR m T e) (hp : p ≤ e) (ht : t ≤ 7) (hs : ZS σ) : zEv σ (d + 1) 1003 0 [some (.ref 128), some (.int (Int32.ofNat t)), none] [] (zS1, XP m p b, yy) (.inl (some (.int (y_readTerm T e m p b t).1))) (zS1, XP ((y_readTerm T e m p b t).2.1) ((y_readTerm T e m p b t).2.2.1) ((y_readTerm T e m p b t).2.2.2), yy) := by
  refine zeP rfl rfl ?_
  refine zeF1 rfl rfl (c1lt (by omega)) ?_
  refine zeP rfl rfl ?_
  refine zeKn (c := 8) rfl rfl rfl ?_
  refine zeF2 rfl rfl (tgt_f (by omega) (by omega) (by omega)) ?_
  refine zeP rfl rfl ?_
  refine zeB1 rfl rfl (fun h1 => ?_) (fun h1 => ?_)
  · refine zeP rfl rfl ?_
    refine zeS rfl rfl rfl ?_
    refine zeP rfl rfl ?_
    refine zeSt (n := 0) (k := t) hs (by omega) rfl (by show t < 9; omega) (by decide) ?_
    refine zeS rfl rfl rfl ?_
    refine zeP rfl rfl ?_
    refine zeSt (n := 1) (k := t) hs (by omega) rfl (by show t < 9; omega) (by decide) ?_
    refine zeCV rfl rfl rfl rfl zS128 rfl (yc_readNumber (lo := ((zla 0).getD t 0)) (hi := ((zla 1).getD t 0)) (T := T) (e := e) (m := m) (p := p) (b := b) hG hp) (by omega) ?_
    dsimp only [Option.toList, List.cons_append, List.nil_append]
    refine zeP rfl rfl ?_
    refine zeP rfl rfl ?_
    refine zeK (v := -1) rfl rfl rfl ?_
    refine zeB2 rfl rfl (fun h2 => ?_) (fun h2 => ?_)
    · refine zeP rfl rfl ?_
      refine zeGR rfl rfl zS128 rfl rfl ?_
      refine zeGR rfl rfl (shM bb43) rfl rfl ?_
      refine zeP rfl rfl ?_
      refine zeP rfl rfl ?_
      refine zeXAS (a := (43 + 3)) (k := t) (by first | decide | omega) rfl (shE bb43) rfl (by omega) ?_
      refine zeKn (c := 1) rfl rfl rfl ?_
      exact zeRe rfl rfl rfl rfl (by simp only [y_readTerm, h1, h2, cond_true, cond_false] <;> rfl) (by simp only [y_readTerm, h1, h2, cond_true, cond_false] <;> rfl)
    · refine zeKn (c := 0) rfl rfl rfl ?_
      exact zeRe rfl rfl rfl rfl (by simp only [y_readTerm, h1, h2, cond_true, cond_false] <;> rfl) (by simp only [y_readTerm, h1, h2, cond_true, cond_false] <;> rfl)
  · refine zeP rfl rfl ?_
    refine zeGR rfl rfl zS128 rfl rfl ?_
    refine zeXGI (a := 43) (by first | decide | omega) rfl rfl (shM bb43) rfl rfl ?_
    refine zeB1 rfl rfl (fun h3 => ?_) (fun h3 => ?_)
    · refine zeP rfl rfl ?_
      refine zeS rfl rfl rfl ?_
      refine zeP rfl rfl ?_
      refine zeSt (n := 0) (k := t) hs (by omega) rfl (by show t < 9; omega) (by decide) ?_
      refine zeS rfl rfl rfl ?_
      refine zeP rfl rfl ?_
      refine zeSt (n := 1) (k := t) hs (by omega) rfl (by show t < 9; omega) (by decide) ?_
      refine zeCV rfl rfl rfl rfl zS128 rfl (yc_readNumber (lo := ((zla 0).getD t 0)) (hi := ((zla 1).getD t 0)) (T := T) (e := e) (m := m) (p := p) (b := b) hG hp) (by omega) ?_
      dsimp only [Option.toList, List.cons_append, List.nil_append]
      refine zeP rfl rfl ?_
      refine zeP rfl rfl ?_
      refine zeK (v := -1) rfl rfl rfl ?_
      refine zeB2 rfl rfl (fun h4 => ?_) (fun h4 => ?_)
      · refine zeP rfl rfl ?_
        refine zeGR rfl rfl zS128 rfl rfl ?_
        refine zeGR rfl rfl (shM bb43) rfl rfl ?_
        refine zeP rfl rfl ?_
        refine zeP rfl rfl ?_
        refine zeXAS (a := (43 + 3)) (k := t) (by first | decide | omega) rfl (shE bb43) rfl (by omega) ?_
        refine zeKn (c := 1) rfl rfl rfl ?_
        exact zeRe rfl rfl rfl rfl (by simp only [y_readTerm, h1, h3, h4, cond_true, cond_false] <;> rfl) (by simp only [y_readTerm, h1, h3, h4, cond_true, cond_false] <;> rfl)
      · refine zeKn (c := 0) rfl rfl rfl ?_
        exact zeRe rfl rfl rfl rfl (by simp only [y_readTerm, h1, h3, h4, cond_true, cond_false] <;> rfl) (by simp only [y_readTerm, h1, h3, h4, cond_true, cond_false] <;> rfl)
    · refine zeKn (c := 0) rfl rfl rfl ?_
      exact zeRe rfl rfl rfl rfl (by simp only [y_readTerm, h1, h3, cond_true, cond_false] <;> rfl) (by simp only [y_readTerm, h1, h3, cond_true, cond_false] <;> rfl)
theorem yc_readTerm {σ : Nat → Nat × (Nat → Int32)} {yy : (Nat → Nat → Int64) × Bool × Nat × Nat} {m : Nat → Nat → Int32} {p b : Nat} {T : Nat → Int32} {e : Nat} {t : Nat} (hG : XR m T e) (hp : p ≤ e) (ht : t ≤ 7) (hs : ZS σ) : zF σ 3 1003 [.ref 128, .int (Int32.ofNat t)] (zS1, XP m p b, yy) (.inl (some (.int (y_readTerm T e m p b t).1))) (zS1, XP ((y_readTerm T e m p b t).2.1) ((y_readTerm T e m p b t).2.2.1) ((y_readTerm T e m p b t).2.2.2), yy) := by
  intro d hd
  obtain ⟨d, rfl⟩ : ∃ k, d = k + 1 := ⟨d - 1, by omega⟩
  exact yp_readTerm hd hG hp ht hs
def yl_readTrust (v : Int32) : Nat → Nat → (Nat → Nat → Int32) → Int32 × (Nat → Nat → Int32)
  | 0, l, m => ((Int32.ofNat 1), m)
  | n + 1, l, m => (yl_readTrust v n ((l + 1)) ((zm2 m ((43 + 5 + l)) 1 v)))
theorem yw_readTrust {σ : Nat → Nat × (Nat → Int32)} {yy : (Nat → Nat → Int64) × Bool × Nat × Nat} {p : Nat} {b : Nat} {T : Nat → Int32} {e : Nat} {v : Int32} {d : Nat} (hd : 2 ≤ d + 1) : ∀ (n : Nat) (l : Nat) (m : (Nat → Nat → Int32)), l + n = 4 → zEv σ (d + 1) 1004 17 [some (.ref 128), some (.int v), some (.int (Int32.ofNat l))] [] (zS1, XP m p b, yy) (.inl (some (.int (yl_readTrust v n l m).1))) (zS1, XP ((yl_readTrust v n l m).2) p b, yy) := by
  intro n
  induction n with
  | zero =>
    intro l m hk
    refine zeP rfl rfl ?_
    refine zeKn (c := 4) rfl rfl rfl ?_
    refine zeT2 rfl rfl (zcge (by omega) (by omega) (by omega)) ?_
    refine zeKn (c := 1) rfl rfl rfl ?_
    exact zeRe rfl rfl rfl rfl (by rfl) (by rfl)
  | succ n ih =>
    intro l m hk
    refine zeP rfl rfl ?_
    refine zeKn (c := 4) rfl rfl rfl ?_
    refine zeF2 rfl rfl (zcge_f (by omega) (by omega) (by omega)) ?_
    refine zeP rfl rfl ?_
    refine zeGR rfl rfl zS128 rfl rfl ?_
    refine zeP rfl rfl ?_
    refine zeCV rfl rfl rfl rfl (shM bb43) rfl (yc_lockAt (m := m) (p := p) (b := b) (l := l) (by omega)) (by omega) ?_
    dsimp only [Option.toList, List.cons_append, List.nil_append]
    refine zeP rfl rfl ?_
    refine zeXPI (a := (43 + 5 + l)) (by first | decide | omega) rfl rfl (shL bb43 (by omega)) rfl ?_
    refine zeInc rfl rfl ?_
    refine zeP rfl rfl ?_
    simp only [yl_readTrust, cond_true, cond_false]
    exact ih ((l + 1)) ((zm2 m ((43 + 5 + l)) 1 v)) (by omega) 
def y_readTrust (T : (Nat → Int32)) (e : Nat) (m : (Nat → Nat → Int32)) (p : Nat) : Int32 × (Nat → Nat → Int32) × Nat × Nat := (bif zc2 .ne (y_readNumber T e p ((Int32.ofNat 0)) ((Int32.ofNat 15))).1 (-1) then ((yl_readTrust ((y_readNumber T e p ((Int32.ofNat 0)) ((Int32.ofNat 15))).1) 4 0 m).1, (yl_readTrust ((y_readNumber T e p ((Int32.ofNat 0)) ((Int32.ofNat 15))).1) 4 0 m).2, (y_readNumber T e p ((Int32.ofNat 0)) ((Int32.ofNat 15))).2.1, (y_readNumber T e p ((Int32.ofNat 0)) ((Int32.ofNat 15))).2.2) else ((Int32.ofNat 0), m, (y_readNumber T e p ((Int32.ofNat 0)) ((Int32.ofNat 15))).2.1, (y_readNumber T e p ((Int32.ofNat 0)) ((Int32.ofNat 15))).2.2))
theorem yp_readTrust {σ : Nat → Nat × (Nat → Int32)} {yy : (Nat → Nat → Int64) × Bool × Nat × Nat} {m : Nat → Nat → Int32} {p b : Nat} {T : Nat → Int32} {e : Nat} {d : Nat} (hd : 3 ≤ d + 1) (hG : XR m T e) (hp : p ≤ e) : zEv σ (d + 1) 1004 0 [some (.ref 128), none, none] [] (zS1, XP m p b, yy) (.inl (some (.int (y_readTrust T e m p).1))) (zS1, XP ((y_readTrust T e m p).2.1) ((y_readTrust T e m p).2.2.1) ((y_readTrust T e m p).2.2.2), yy) := by
  refine zeP rfl rfl ?_
  refine zeKn (c := 0) rfl rfl rfl ?_
  refine zeKn (c := 15) rfl rfl rfl ?_
  refine zeCV rfl rfl rfl rfl zS128 rfl (yc_readNumber (lo := (Int32.ofNat 0)) (hi := (Int32.ofNat 15)) (T := T) (e := e) (m := m) (p := p) (b := b) hG hp) (by omega) ?_
  dsimp only [Option.toList, List.cons_append, List.nil_append]
  refine zeP rfl rfl ?_
  refine zeP rfl rfl ?_
  refine zeK (v := -1) rfl rfl rfl ?_
  refine zeB2 rfl rfl (fun h1 => ?_) (fun h1 => ?_)
  · refine zeKn (c := 0) rfl rfl rfl ?_
    refine zeP rfl rfl ?_
    simp only [y_readTrust, h1, cond_true, cond_false]
    exact yw_readTrust (v := (y_readNumber T e p ((Int32.ofNat 0)) ((Int32.ofNat 15))).1) (T := T) (e := e) (p := (y_readNumber T e p ((Int32.ofNat 0)) ((Int32.ofNat 15))).2.1) (b := (y_readNumber T e p ((Int32.ofNat 0)) ((Int32.ofNat 15))).2.2) (by omega)  4 (0) m (by omega) 
  · refine zeKn (c := 0) rfl rfl rfl ?_
    exact zeRe rfl rfl rfl rfl (by simp only [y_readTrust, h1, cond_true, cond_false] <;> rfl) (by simp only [y_readTrust, h1, cond_true, cond_false] <;> rfl)
theorem yc_readTrust {σ : Nat → Nat × (Nat → Int32)} {yy : (Nat → Nat → Int64) × Bool × Nat × Nat} {m : Nat → Nat → Int32} {p b : Nat} {T : Nat → Int32} {e : Nat} (hG : XR m T e) (hp : p ≤ e) : zF σ 3 1004 [.ref 128] (zS1, XP m p b, yy) (.inl (some (.int (y_readTrust T e m p).1))) (zS1, XP ((y_readTrust T e m p).2.1) ((y_readTrust T e m p).2.2.1) ((y_readTrust T e m p).2.2.2), yy) := by
  intro d hd
  obtain ⟨d, rfl⟩ : ∃ k, d = k + 1 := ⟨d - 1, by omega⟩
  exact yp_readTrust hd hG hp
def y_readWord (T : (Nat → Int32)) (e : Nat) (m : (Nat → Nat → Int32)) (p : Nat) : Int32 × (Nat → Nat → Int32) × Nat × Nat := (bif zc2 .ne (y_readNumber T e p ((Int32.ofNat 0)) ((Int32.ofNat 31))).1 (-1) then (bif zc2 .ne (y_readNumber T e ((y_readNumber T e p ((Int32.ofNat 0)) ((Int32.ofNat 31))).2.1) ((Int32.ofNat 0)) ((Int32.ofNat 9999))).1 (-1) then ((Int32.ofNat 1), (zm2 ((zm2 m ((43 + 1)) (((y_readNumber T e p ((Int32.ofNat 0)) ((Int32.ofNat 31))).1).toNatClampNeg) ((y_readNumber T e ((y_readNumber T e p ((Int32.ofNat 0)) ((Int32.ofNat 31))).2.1) ((Int32.ofNat 0)) ((Int32.ofNat 9999))).1))) ((43 + 2)) (((y_readNumber T e p ((Int32.ofNat 0)) ((Int32.ofNat 31))).1).toNatClampNeg) ((y_readNumber T e ((y_readNumber T e p ((Int32.ofNat 0)) ((Int32.ofNat 31))).2.1) ((Int32.ofNat 0)) ((Int32.ofNat 9999))).1)), (y_readNumber T e ((y_readNumber T e p ((Int32.ofNat 0)) ((Int32.ofNat 31))).2.1) ((Int32.ofNat 0)) ((Int32.ofNat 9999))).2.1, (y_readNumber T e ((y_readNumber T e p ((Int32.ofNat 0)) ((Int32.ofNat 31))).2.1) ((Int32.ofNat 0)) ((Int32.ofNat 9999))).2.2) else ((Int32.ofNat 0), m, (y_readNumber T e ((y_readNumber T e p ((Int32.ofNat 0)) ((Int32.ofNat 31))).2.1) ((Int32.ofNat 0)) ((Int32.ofNat 9999))).2.1, (y_readNumber T e ((y_readNumber T e p ((Int32.ofNat 0)) ((Int32.ofNat 31))).2.1) ((Int32.ofNat 0)) ((Int32.ofNat 9999))).2.2)) else ((Int32.ofNat 0), m, (y_readNumber T e p ((Int32.ofNat 0)) ((Int32.ofNat 31))).2.1, (y_readNumber T e p ((Int32.ofNat 0)) ((Int32.ofNat 31))).2.2))
theorem yp_readWord {σ : Nat → Nat × (Nat → Int32)} {yy : (Nat → Nat → Int64) × Bool × Nat × Nat} {m : Nat → Nat → Int32} {p b : Nat} {T : Nat → Int32} {e : Nat} {d : Nat} (hd : 3 ≤ d + 1) (hG : XR m T e) (hp : p ≤ e) : zEv σ (d + 1) 1005 0 [some (.ref 128), none, none] [] (zS1, XP m p b, yy) (.inl (some (.int (y_readWord T e m p).1))) (zS1, XP ((y_readWord T e m p).2.1) ((y_readWord T e m p).2.2.1) ((y_readWord T e m p).2.2.2), yy) := by
  refine zeP rfl rfl ?_
  refine zeKn (c := 0) rfl rfl rfl ?_
  refine zeKn (c := 31) rfl rfl rfl ?_
  refine zeCV rfl rfl rfl rfl zS128 rfl (yc_readNumber (lo := (Int32.ofNat 0)) (hi := (Int32.ofNat 31)) (T := T) (e := e) (m := m) (p := p) (b := b) hG hp) (by omega) ?_
  dsimp only [Option.toList, List.cons_append, List.nil_append]
  refine zeP rfl rfl ?_
  refine zeP rfl rfl ?_
  refine zeK (v := -1) rfl rfl rfl ?_
  refine zeB2 rfl rfl (fun h1 => ?_) (fun h1 => ?_)
  · refine zeP rfl rfl ?_
    refine zeKn (c := 0) rfl rfl rfl ?_
    refine zeKn (c := 9999) rfl rfl rfl ?_
    refine zeCV rfl rfl rfl rfl zS128 rfl (yc_readNumber (lo := (Int32.ofNat 0)) (hi := (Int32.ofNat 9999)) (T := T) (e := e) (m := m) (p := (y_readNumber T e p ((Int32.ofNat 0)) ((Int32.ofNat 31))).2.1) (b := (y_readNumber T e p ((Int32.ofNat 0)) ((Int32.ofNat 31))).2.2) hG (ynum_le hG.2.2 hp).2.1) (by omega) ?_
    dsimp only [Option.toList, List.cons_append, List.nil_append]
    refine zeP rfl rfl ?_
    refine zeP rfl rfl ?_
    refine zeK (v := -1) rfl rfl rfl ?_
    refine zeB2 rfl rfl (fun h2 => ?_) (fun h2 => ?_)
    · have hw : (y_readNumber T e p ((Int32.ofNat 0)) ((Int32.ofNat 31))).1 = Int32.ofNat ((y_readNumber T e p ((Int32.ofNat 0)) ((Int32.ofNat 31))).1).toNatClampNeg ∧ ((y_readNumber T e p ((Int32.ofNat 0)) ((Int32.ofNat 31))).1).toNatClampNeg ≤ 31 := ⟨(ynum_k (by omega) (by omega) (zne_t h1)).1, (ynum_k (by omega) (by omega) (zne_t h1)).2.1⟩
      refine zeP rfl rfl ?_
      refine zeGR rfl rfl zS128 rfl rfl ?_
      refine zeGR rfl rfl (shM bb43) rfl rfl ?_
      refine zeKn (c := ((y_readNumber T e p ((Int32.ofNat 0)) ((Int32.ofNat 31))).1).toNatClampNeg) rfl rfl hw.1 ?_
      refine zeKn (c := 31) rfl rfl rfl ?_
      refine zeON (c := ((y_readNumber T e p ((Int32.ofNat 0)) ((Int32.ofNat 31))).1).toNatClampNeg) rfl rfl (zand31 _ (by omega)) ?_
      refine zeP rfl rfl ?_
      refine zeXAS (a := (43 + 1)) (k := ((y_readNumber T e p ((Int32.ofNat 0)) ((Int32.ofNat 31))).1).toNatClampNeg) (by first | decide | omega) rfl (shW bb43) rfl (by omega) ?_
      refine zeP rfl rfl ?_
      refine zeGR rfl rfl zS128 rfl rfl ?_
      refine zeGR rfl rfl (shM bb43) rfl rfl ?_
      refine zeKn (c := ((y_readNumber T e p ((Int32.ofNat 0)) ((Int32.ofNat 31))).1).toNatClampNeg) rfl rfl hw.1 ?_
      refine zeKn (c := 31) rfl rfl rfl ?_
      refine zeON (c := ((y_readNumber T e p ((Int32.ofNat 0)) ((Int32.ofNat 31))).1).toNatClampNeg) rfl rfl (zand31 _ (by omega)) ?_
      refine zeP rfl rfl ?_
      refine zeXAS (a := (43 + 2)) (k := ((y_readNumber T e p ((Int32.ofNat 0)) ((Int32.ofNat 31))).1).toNatClampNeg) (by first | decide | omega) rfl (shT bb43) rfl (by omega) ?_
      refine zeKn (c := 1) rfl rfl rfl ?_
      exact zeRe rfl rfl rfl rfl (by simp only [y_readWord, h1, h2, cond_true, cond_false] <;> rfl) (by simp only [y_readWord, h1, h2, cond_true, cond_false] <;> rfl)
    · refine zeKn (c := 0) rfl rfl rfl ?_
      exact zeRe rfl rfl rfl rfl (by simp only [y_readWord, h1, h2, cond_true, cond_false] <;> rfl) (by simp only [y_readWord, h1, h2, cond_true, cond_false] <;> rfl)
  · refine zeKn (c := 0) rfl rfl rfl ?_
    exact zeRe rfl rfl rfl rfl (by simp only [y_readWord, h1, cond_true, cond_false] <;> rfl) (by simp only [y_readWord, h1, cond_true, cond_false] <;> rfl)
theorem yc_readWord {σ : Nat → Nat × (Nat → Int32)} {yy : (Nat → Nat → Int64) × Bool × Nat × Nat} {m : Nat → Nat → Int32} {p b : Nat} {T : Nat → Int32} {e : Nat} (hG : XR m T e) (hp : p ≤ e) : zF σ 3 1005 [.ref 128] (zS1, XP m p b, yy) (.inl (some (.int (y_readWord T e m p).1))) (zS1, XP ((y_readWord T e m p).2.1) ((y_readWord T e m p).2.2.1) ((y_readWord T e m p).2.2.2), yy) := by
  intro d hd
  obtain ⟨d, rfl⟩ : ∃ k, d = k + 1 := ⟨d - 1, by omega⟩
  exact yp_readWord hd hG hp
def y_readLock (T : (Nat → Int32)) (e : Nat) (m : (Nat → Nat → Int32)) (p : Nat) : Int32 × (Nat → Nat → Int32) × Nat × Nat := (bif zc2 .eq (y_readNumber T e p ((Int32.ofNat 0)) ((Int32.ofNat 3))).1 (-1) then ((Int32.ofNat 0), m, (y_readNumber T e p ((Int32.ofNat 0)) ((Int32.ofNat 3))).2.1, (y_readNumber T e p ((Int32.ofNat 0)) ((Int32.ofNat 3))).2.2) else (bif zc2 .ne (y_readName T e ((y_readNumber T e p ((Int32.ofNat 0)) ((Int32.ofNat 3))).2.1) 1).1 (-1) then (bif zc2 .eq (y_readNumber T e ((y_readName T e ((y_readNumber T e p ((Int32.ofNat 0)) ((Int32.ofNat 3))).2.1) 1).2.1) ((Int32.ofNat 0)) ((Int32.ofNat 31))).1 (-1) then ((Int32.ofNat 0), m, (y_readNumber T e ((y_readName T e ((y_readNumber T e p ((Int32.ofNat 0)) ((Int32.ofNat 3))).2.1) 1).2.1) ((Int32.ofNat 0)) ((Int32.ofNat 31))).2.1, (y_readNumber T e ((y_readName T e ((y_readNumber T e p ((Int32.ofNat 0)) ((Int32.ofNat 3))).2.1) 1).2.1) ((Int32.ofNat 0)) ((Int32.ofNat 31))).2.2) else (bif zc1 .eq (x_isWordOfOther m 43 ((y_readNumber T e p ((Int32.ofNat 0)) ((Int32.ofNat 3))).1) ((y_readNumber T e ((y_readName T e ((y_readNumber T e p ((Int32.ofNat 0)) ((Int32.ofNat 3))).2.1) 1).2.1) ((Int32.ofNat 0)) ((Int32.ofNat 31))).1)) then ((Int32.ofNat 1), (zm2 m ((43 + 5 + ((((y_readNumber T e p ((Int32.ofNat 0)) ((Int32.ofNat 3))).1).toNatClampNeg)))) 0 (y_readNumber T e ((y_readName T e ((y_readNumber T e p ((Int32.ofNat 0)) ((Int32.ofNat 3))).2.1) 1).2.1) ((Int32.ofNat 0)) ((Int32.ofNat 31))).1), (y_readNumber T e ((y_readName T e ((y_readNumber T e p ((Int32.ofNat 0)) ((Int32.ofNat 3))).2.1) 1).2.1) ((Int32.ofNat 0)) ((Int32.ofNat 31))).2.1, (y_readNumber T e ((y_readName T e ((y_readNumber T e p ((Int32.ofNat 0)) ((Int32.ofNat 3))).2.1) 1).2.1) ((Int32.ofNat 0)) ((Int32.ofNat 31))).2.2) else ((Int32.ofNat 0), m, (y_readNumber T e ((y_readName T e ((y_readNumber T e p ((Int32.ofNat 0)) ((Int32.ofNat 3))).2.1) 1).2.1) ((Int32.ofNat 0)) ((Int32.ofNat 31))).2.1, (y_readNumber T e ((y_readName T e ((y_readNumber T e p ((Int32.ofNat 0)) ((Int32.ofNat 3))).2.1) 1).2.1) ((Int32.ofNat 0)) ((Int32.ofNat 31))).2.2))) else ((Int32.ofNat 0), m, (y_readName T e ((y_readNumber T e p ((Int32.ofNat 0)) ((Int32.ofNat 3))).2.1) 1).2.1, (y_readName T e ((y_readNumber T e p ((Int32.ofNat 0)) ((Int32.ofNat 3))).2.1) 1).2.2)))
theorem yp_readLock {σ : Nat → Nat × (Nat → Int32)} {yy : (Nat → Nat → Int64) × Bool × Nat × Nat} {m : Nat → Nat → Int32} {p b : Nat} {T : Nat → Int32} {e : Nat} {d : Nat} (hd : 3 ≤ d + 1) (hG : XR m T e) (hp : p ≤ e) : zEv σ (d + 1) 1006 0 [some (.ref 128), none, none] [] (zS1, XP m p b, yy) (.inl (some (.int (y_readLock T e m p).1))) (zS1, XP ((y_readLock T e m p).2.1) ((y_readLock T e m p).2.2.1) ((y_readLock T e m p).2.2.2), yy) := by
  refine zeP rfl rfl ?_
  refine zeKn (c := 0) rfl rfl rfl ?_
  refine zeKn (c := 3) rfl rfl rfl ?_
  refine zeCV rfl rfl rfl rfl zS128 rfl (yc_readNumber (lo := (Int32.ofNat 0)) (hi := (Int32.ofNat 3)) (T := T) (e := e) (m := m) (p := p) (b := b) hG hp) (by omega) ?_
  dsimp only [Option.toList, List.cons_append, List.nil_append]
  refine zeP rfl rfl ?_
  refine zeP rfl rfl ?_
  refine zeK (v := -1) rfl rfl rfl ?_
  refine zeB2 rfl rfl (fun h1 => ?_) (fun h1 => ?_)
  · refine zeKn (c := 0) rfl rfl rfl ?_
    exact zeRe rfl rfl rfl rfl (by simp only [y_readLock, h1, cond_true, cond_false] <;> rfl) (by simp only [y_readLock, h1, cond_true, cond_false] <;> rfl)
  · refine zeP rfl rfl ?_
    refine zeS rfl rfl rfl ?_
    refine zeCV rfl rfl rfl rfl zS128 rfl (yc_readName (s := 1) (T := T) (e := e) (m := m) (p := (y_readNumber T e p ((Int32.ofNat 0)) ((Int32.ofNat 3))).2.1) (b := (y_readNumber T e p ((Int32.ofNat 0)) ((Int32.ofNat 3))).2.2) hG (by omega) (ynum_le (T := T) (lo := Int32.ofNat 0) (hi := Int32.ofNat 3) hG.2.2 hp).2.1) (by omega) ?_
    dsimp only [Option.toList, List.cons_append, List.nil_append]
    refine zeK (v := -1) rfl rfl rfl ?_
    refine zeB2 rfl rfl (fun h2 => ?_) (fun h2 => ?_)
    · refine zeP rfl rfl ?_
      refine zeKn (c := 0) rfl rfl rfl ?_
      refine zeKn (c := 31) rfl rfl rfl ?_
      refine zeCV rfl rfl rfl rfl zS128 rfl (yc_readNumber (lo := (Int32.ofNat 0)) (hi := (Int32.ofNat 31)) (T := T) (e := e) (m := m) (p := (y_readName T e ((y_readNumber T e p ((Int32.ofNat 0)) ((Int32.ofNat 3))).2.1) 1).2.1) (b := (y_readName T e ((y_readNumber T e p ((Int32.ofNat 0)) ((Int32.ofNat 3))).2.1) 1).2.2) hG (yname_le (T := T) (s := 1) hG.2.2 (ynum_le (T := T) (lo := Int32.ofNat 0) (hi := Int32.ofNat 3) hG.2.2 hp).2.1).1) (by omega) ?_
      dsimp only [Option.toList, List.cons_append, List.nil_append]
      refine zeP rfl rfl ?_
      refine zeP rfl rfl ?_
      refine zeK (v := -1) rfl rfl rfl ?_
      refine zeB2 rfl rfl (fun h3 => ?_) (fun h3 => ?_)
      · refine zeKn (c := 0) rfl rfl rfl ?_
        exact zeRe rfl rfl rfl rfl (by simp only [y_readLock, h1, h2, h3, cond_true, cond_false] <;> rfl) (by simp only [y_readLock, h1, h2, h3, cond_true, cond_false] <;> rfl)
      · refine zeP rfl rfl ?_
        refine zeGR rfl rfl zS128 rfl rfl ?_
        refine zeP rfl rfl ?_
        refine zeP rfl rfl ?_
        refine zeCV rfl rfl rfl rfl (shM bb43) rfl (yc_isWordOfOther (m := m) (p := (y_readNumber T e ((y_readName T e ((y_readNumber T e p ((Int32.ofNat 0)) ((Int32.ofNat 3))).2.1) 1).2.1) ((Int32.ofNat 0)) ((Int32.ofNat 31))).2.1) (b := (y_readNumber T e ((y_readName T e ((y_readNumber T e p ((Int32.ofNat 0)) ((Int32.ofNat 3))).2.1) 1).2.1) ((Int32.ofNat 0)) ((Int32.ofNat 31))).2.2) (l := (y_readNumber T e p ((Int32.ofNat 0)) ((Int32.ofNat 3))).1) (w := (y_readNumber T e ((y_readName T e ((y_readNumber T e p ((Int32.ofNat 0)) ((Int32.ofNat 3))).2.1) 1).2.1) ((Int32.ofNat 0)) ((Int32.ofNat 31))).1) ) (by omega) ?_
        dsimp only [Option.toList, List.cons_append, List.nil_append]
        refine zeB1 rfl rfl (fun h4 => ?_) (fun h4 => ?_)
        · have hl : (y_readNumber T e p ((Int32.ofNat 0)) ((Int32.ofNat 3))).1 = Int32.ofNat ((y_readNumber T e p ((Int32.ofNat 0)) ((Int32.ofNat 3))).1).toNatClampNeg ∧ ((y_readNumber T e p ((Int32.ofNat 0)) ((Int32.ofNat 3))).1).toNatClampNeg ≤ 3 := ⟨(ynum_k (by omega) (by omega) (zeq_f h1)).1, (ynum_k (by omega) (by omega) (zeq_f h1)).2.1⟩
          refine zeP rfl rfl ?_
          refine zeGR rfl rfl zS128 rfl rfl ?_
          refine zeKn (c := ((y_readNumber T e p ((Int32.ofNat 0)) ((Int32.ofNat 3))).1).toNatClampNeg) rfl rfl hl.1 ?_
          refine zeCV rfl rfl rfl rfl (shM bb43) rfl (yc_lockAt (m := m) (p := (y_readNumber T e ((y_readName T e ((y_readNumber T e p ((Int32.ofNat 0)) ((Int32.ofNat 3))).2.1) 1).2.1) ((Int32.ofNat 0)) ((Int32.ofNat 31))).2.1) (b := (y_readNumber T e ((y_readName T e ((y_readNumber T e p ((Int32.ofNat 0)) ((Int32.ofNat 3))).2.1) 1).2.1) ((Int32.ofNat 0)) ((Int32.ofNat 31))).2.2) (l := (((y_readNumber T e p ((Int32.ofNat 0)) ((Int32.ofNat 3))).1).toNatClampNeg)) (by omega)) (by omega) ?_
          dsimp only [Option.toList, List.cons_append, List.nil_append]
          refine zeP rfl rfl ?_
          refine zeXPI (a := (43 + 5 + ((((y_readNumber T e p ((Int32.ofNat 0)) ((Int32.ofNat 3))).1).toNatClampNeg)))) (by first | decide | omega) rfl rfl (shL bb43 (by omega)) rfl ?_
          refine zeKn (c := 1) rfl rfl rfl ?_
          exact zeRe rfl rfl rfl rfl (by simp only [y_readLock, h1, h2, h3, h4, cond_true, cond_false] <;> rfl) (by simp only [y_readLock, h1, h2, h3, h4, cond_true, cond_false] <;> rfl)
        · refine zeKn (c := 0) rfl rfl rfl ?_
          exact zeRe rfl rfl rfl rfl (by simp only [y_readLock, h1, h2, h3, h4, cond_true, cond_false] <;> rfl) (by simp only [y_readLock, h1, h2, h3, h4, cond_true, cond_false] <;> rfl)
    · refine zeKn (c := 0) rfl rfl rfl ?_
      exact zeRe rfl rfl rfl rfl (by simp only [y_readLock, h1, h2, cond_true, cond_false] <;> rfl) (by simp only [y_readLock, h1, h2, cond_true, cond_false] <;> rfl)
theorem yc_readLock {σ : Nat → Nat × (Nat → Int32)} {yy : (Nat → Nat → Int64) × Bool × Nat × Nat} {m : Nat → Nat → Int32} {p b : Nat} {T : Nat → Int32} {e : Nat} (hG : XR m T e) (hp : p ≤ e) : zF σ 3 1006 [.ref 128] (zS1, XP m p b, yy) (.inl (some (.int (y_readLock T e m p).1))) (zS1, XP ((y_readLock T e m p).2.1) ((y_readLock T e m p).2.2.1) ((y_readLock T e m p).2.2.2), yy) := by
  intro d hd
  obtain ⟨d, rfl⟩ : ∃ k, d = k + 1 := ⟨d - 1, by omega⟩
  exact yp_readLock hd hG hp
theorem i7_of {x : Int32} {n : Nat} (hn : n < 2147483648) (h1 : zc1 .lt x = false) (h2 : zc2 .le x (Int32.ofNat n) = true) : x = Int32.ofNat x.toNatClampNeg ∧ x.toNatClampNeg ≤ n := by
  have a := of_decide_eq_false h1
  have c := of_decide_eq_true h2
  rw [Int32.lt_iff_toInt_lt, Int32.toInt_zero] at a
  rw [Int32.le_iff_toInt_le, zoN hn] at c
  have h3 : x.toNatClampNeg = x.toInt.toNat := rfl
  refine ⟨?_, by omega⟩
  apply Int32.toInt_inj.mp
  rw [zoN (by omega), h3]
  omega
def y_readDeed (T : (Nat → Int32)) (e : Nat) (m : (Nat → Nat → Int32)) (p : Nat) (t : Nat) : Int32 × (Nat → Nat → Int32) × Nat × Nat := (bif zc1 .lt (y_readName T e p 2).1 then ((Int32.ofNat 0), m, (y_readName T e p 2).2.1, (y_readName T e p 2).2.2) else (bif zc2 .le (y_readName T e p 2).1 (Int32.ofNat 7) then (bif zc2 .ne (Int32.ofNat (((y_readName T e p 2).1).toNatClampNeg)) (Int32.ofNat 7) then (bif zc2 .ne (y_readNumber T e ((y_readName T e p 2).2.1) (((zla 2).getD ((((y_readName T e p 2).1).toNatClampNeg)) 0)) (((zla 3).getD ((((y_readName T e p 2).1).toNatClampNeg)) 0))).1 (-1) then ((Int32.ofNat 1), (x_addDeed m 43 t ((Int32.ofNat (((y_readName T e p 2).1).toNatClampNeg))) ((y_readNumber T e ((y_readName T e p 2).2.1) (((zla 2).getD ((((y_readName T e p 2).1).toNatClampNeg)) 0)) (((zla 3).getD ((((y_readName T e p 2).1).toNatClampNeg)) 0))).1)), (y_readNumber T e ((y_readName T e p 2).2.1) (((zla 2).getD ((((y_readName T e p 2).1).toNatClampNeg)) 0)) (((zla 3).getD ((((y_readName T e p 2).1).toNatClampNeg)) 0))).2.1, (y_readNumber T e ((y_readName T e p 2).2.1) (((zla 2).getD ((((y_readName T e p 2).1).toNatClampNeg)) 0)) (((zla 3).getD ((((y_readName T e p 2).1).toNatClampNeg)) 0))).2.2) else ((Int32.ofNat 0), m, (y_readNumber T e ((y_readName T e p 2).2.1) (((zla 2).getD ((((y_readName T e p 2).1).toNatClampNeg)) 0)) (((zla 3).getD ((((y_readName T e p 2).1).toNatClampNeg)) 0))).2.1, (y_readNumber T e ((y_readName T e p 2).2.1) (((zla 2).getD ((((y_readName T e p 2).1).toNatClampNeg)) 0)) (((zla 3).getD ((((y_readName T e p 2).1).toNatClampNeg)) 0))).2.2)) else ((Int32.ofNat 1), (x_addDeed m 43 t ((Int32.ofNat (((y_readName T e p 2).1).toNatClampNeg))) ((Int32.ofNat 0))), (y_readName T e p 2).2.1, (y_readName T e p 2).2.2)) else ((Int32.ofNat 0), m, (y_readName T e p 2).2.1, (y_readName T e p 2).2.2)))
theorem yp_readDeed {σ : Nat → Nat × (Nat → Int32)} {yy : (Nat → Nat → Int64) × Bool × Nat × Nat} {m : Nat → Nat → Int32} {p b : Nat} {T : Nat → Int32} {e : Nat} {t : Nat} {d : Nat} (hd : 3 ≤ d + 1) (hG : XR m T e) (hp : p ≤ e) (ht : t < 4) (hdd : okm m (43 + 10 + 7 * t) 2 24) (hs : ZS σ) : zEv σ (d + 1) 1008 0 [some (.ref 128), some (.ref (43 + 10 + 7 * t)), none, none] [] (zS1, XP m p b, yy) (.inl (some (.int (y_readDeed T e m p t).1))) (zS1, XP ((y_readDeed T e m p t).2.1) ((y_readDeed T e m p t).2.2.1) ((y_readDeed T e m p t).2.2.2), yy) := by
  refine zeP rfl rfl ?_
  refine zeS rfl rfl rfl ?_
  refine zeCV rfl rfl rfl rfl zS128 rfl (yc_readName (s := 2) (T := T) (e := e) (m := m) (p := p) (b := b) hG (by omega) hp) (by omega) ?_
  dsimp only [Option.toList, List.cons_append, List.nil_append]
  refine zeP rfl rfl ?_
  refine zeP rfl rfl ?_
  refine zeB1 rfl rfl (fun h1 => ?_) (fun h1 => ?_)
  · refine zeKn (c := 0) rfl rfl rfl ?_
    exact zeRe rfl rfl rfl rfl (by simp only [y_readDeed, h1, cond_true, cond_false] <;> rfl) (by simp only [y_readDeed, h1, cond_true, cond_false] <;> rfl)
  · refine zeP rfl rfl ?_
    refine zeKn (c := 7) rfl rfl rfl ?_
    refine zeB2 rfl rfl (fun h2 => ?_) (fun h2 => ?_)
    · have hk : (y_readName T e p 2).1 = Int32.ofNat ((y_readName T e p 2).1).toNatClampNeg ∧ ((y_readName T e p 2).1).toNatClampNeg ≤ 7 := (i7_of (by omega) h1 h2)
      refine zeKn (c := ((y_readName T e p 2).1).toNatClampNeg) rfl rfl hk.1 ?_
      refine zeKn (c := 7) rfl rfl rfl ?_
      refine zeB2 rfl rfl (fun h3 => ?_) (fun h3 => ?_)
      · refine zeP rfl rfl ?_
        refine zeS rfl rfl rfl ?_
        refine zeKn (c := ((y_readName T e p 2).1).toNatClampNeg) rfl rfl hk.1 ?_
        refine zeSt (n := 2) (k := (((y_readName T e p 2).1).toNatClampNeg)) hs (by omega) rfl (by show _ < 8; omega) (by decide) ?_
        refine zeS rfl rfl rfl ?_
        refine zeKn (c := ((y_readName T e p 2).1).toNatClampNeg) rfl rfl hk.1 ?_
        refine zeSt (n := 3) (k := (((y_readName T e p 2).1).toNatClampNeg)) hs (by omega) rfl (by show _ < 8; omega) (by decide) ?_
        refine zeCV rfl rfl rfl rfl zS128 rfl (yc_readNumber (lo := ((zla 2).getD ((((y_readName T e p 2).1).toNatClampNeg)) 0)) (hi := ((zla 3).getD ((((y_readName T e p 2).1).toNatClampNeg)) 0)) (T := T) (e := e) (m := m) (p := (y_readName T e p 2).2.1) (b := (y_readName T e p 2).2.2) hG (yname_le (T := T) (s := 2) hG.2.2 hp).1) (by omega) ?_
        dsimp only [Option.toList, List.cons_append, List.nil_append]
        refine zeP rfl rfl ?_
        refine zeP rfl rfl ?_
        refine zeK (v := -1) rfl rfl rfl ?_
        refine zeB2 rfl rfl (fun h4 => ?_) (fun h4 => ?_)
        · refine zeP rfl rfl ?_
          refine zeKn (c := ((y_readName T e p 2).1).toNatClampNeg) rfl rfl hk.1 ?_
          refine zeP rfl rfl ?_
          refine zeCV rfl rfl rfl rfl (shS bb43 (by omega)) rfl (yc_addDeed (m := m) (p := (y_readNumber T e ((y_readName T e p 2).2.1) (((zla 2).getD ((((y_readName T e p 2).1).toNatClampNeg)) 0)) (((zla 3).getD ((((y_readName T e p 2).1).toNatClampNeg)) 0))).2.1) (b := (y_readNumber T e ((y_readName T e p 2).2.1) (((zla 2).getD ((((y_readName T e p 2).1).toNatClampNeg)) 0)) (((zla 3).getD ((((y_readName T e p 2).1).toNatClampNeg)) 0))).2.2) (t := t) (x := (Int32.ofNat (((y_readName T e p 2).1).toNatClampNeg))) (y := (y_readNumber T e ((y_readName T e p 2).2.1) (((zla 2).getD ((((y_readName T e p 2).1).toNatClampNeg)) 0)) (((zla 3).getD ((((y_readName T e p 2).1).toNatClampNeg)) 0))).1) ht hdd) (by omega) ?_
          dsimp only [Option.toList, List.cons_append, List.nil_append]
          refine zeKn (c := 1) rfl rfl rfl ?_
          exact zeRe rfl rfl rfl rfl (by simp only [y_readDeed, h1, h2, h3, h4, cond_true, cond_false] <;> rfl) (by simp only [y_readDeed, h1, h2, h3, h4, cond_true, cond_false] <;> rfl)
        · refine zeKn (c := 0) rfl rfl rfl ?_
          exact zeRe rfl rfl rfl rfl (by simp only [y_readDeed, h1, h2, h3, h4, cond_true, cond_false] <;> rfl) (by simp only [y_readDeed, h1, h2, h3, h4, cond_true, cond_false] <;> rfl)
      · refine zeKn (c := 0) rfl rfl rfl ?_
        refine zeP rfl rfl ?_
        refine zeP rfl rfl ?_
        refine zeP rfl rfl ?_
        refine zeK (v := -1) rfl rfl rfl ?_
        refine zeT2 rfl rfl (show zc2 .ne (Int32.ofNat 0) (-1) = true by decide) ?_
        refine zeP rfl rfl ?_
        refine zeKn (c := ((y_readName T e p 2).1).toNatClampNeg) rfl rfl hk.1 ?_
        refine zeP rfl rfl ?_
        refine zeCV rfl rfl rfl rfl (shS bb43 (by omega)) rfl (yc_addDeed (m := m) (p := (y_readName T e p 2).2.1) (b := (y_readName T e p 2).2.2) (t := t) (x := (Int32.ofNat (((y_readName T e p 2).1).toNatClampNeg))) (y := (Int32.ofNat 0)) ht hdd) (by omega) ?_
        dsimp only [Option.toList, List.cons_append, List.nil_append]
        refine zeKn (c := 1) rfl rfl rfl ?_
        exact zeRe rfl rfl rfl rfl (by simp only [y_readDeed, h1, h2, h3, cond_true, cond_false] <;> rfl) (by simp only [y_readDeed, h1, h2, h3, cond_true, cond_false] <;> rfl)
    · refine zeKn (c := 0) rfl rfl rfl ?_
      exact zeRe rfl rfl rfl rfl (by simp only [y_readDeed, h1, h2, cond_true, cond_false] <;> rfl) (by simp only [y_readDeed, h1, h2, cond_true, cond_false] <;> rfl)
theorem yc_readDeed {σ : Nat → Nat × (Nat → Int32)} {yy : (Nat → Nat → Int64) × Bool × Nat × Nat} {m : Nat → Nat → Int32} {p b : Nat} {T : Nat → Int32} {e : Nat} {t : Nat} (hG : XR m T e) (hp : p ≤ e) (ht : t < 4) (hdd : okm m (43 + 10 + 7 * t) 2 24) (hs : ZS σ) : zF σ 3 1008 [.ref 128, .ref (43 + 10 + 7 * t)] (zS1, XP m p b, yy) (.inl (some (.int (y_readDeed T e m p t).1))) (zS1, XP ((y_readDeed T e m p t).2.1) ((y_readDeed T e m p t).2.2.1) ((y_readDeed T e m p t).2.2.2), yy) := by
  intro d hd
  obtain ⟨d, rfl⟩ : ∃ k, d = k + 1 := ⟨d - 1, by omega⟩
  exact yp_readDeed hd hG hp ht hdd hs
