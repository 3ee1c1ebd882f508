theorem teqf_ne {a b : Nat} (h : zc2 .eq (Int32.ofNat a) (Int32.ofNat b) = false) : a ≠ b := by
  intro e
  subst e
  exact absurd rfl (of_decide_eq_false h)
theorem tgt_t {a b : Nat} (ha : a ≤ 100000) (hb : b ≤ 100000) (h : b < a) : zc2 .gt (Int32.ofNat a) (Int32.ofNat b) = true := by
  apply decide_eq_true
  rw [Int32.lt_iff_toInt_lt, zoN (by omega), zoN (by omega)]
  omega
theorem tgt_f {a b : Nat} (ha : a ≤ 100000) (hb : b ≤ 100000) (h : a ≤ b) : zc2 .gt (Int32.ofNat a) (Int32.ofNat b) = false := by
  apply decide_eq_false
  rw [Int32.lt_iff_toInt_lt, zoN (by omega), zoN (by omega)]
  omega
def yl_look (T : (Nat → Int32)) (e : Nat) : Nat → Nat → Nat × Nat
  | 0, p => (p, p)
  | n + 1, p => (bif zc2 .ge (Int32.ofNat p) (Int32.ofNat e) then (p, p) else (bif zc2 .ne (T p) (Int32.ofNat 32) then (p, p) else (yl_look T e n ((p + 1)))))
theorem yw_look {σ : Nat → Nat × (Nat → Int32)} {yy : (Nat → Nat → Int64) × Bool × Nat × Nat} {m : (Nat → Nat → Int32)} {b : Nat} {T : Nat → Int32} {e : Nat} {d : Nat} (hd : 1 ≤ d + 1) (hG : XR m T e) : ∀ (n : Nat) (p : Nat), e ≤ p + n → (p ≤ 400) → zEv σ (d + 1) 1009 0 [some (.ref 128)] [] (zS1, XP m p b, yy) (.inl none) (zS1, XP m ((yl_look T e n p).1) ((yl_look T e n p).2), yy) := by
  intro n
  induction n with
  | zero =>
    intro p hk hp
    refine zeP rfl rfl ?_
    refine zeXp rfl rfl ?_
    refine zeP rfl rfl ?_
    refine zeXe hG.2.1 rfl rfl ?_
    refine zeT2 rfl rfl (zcge (by omega) (by have := hG.2.2; omega) (by omega)) ?_
    refine zeP rfl rfl ?_
    refine zeP rfl rfl ?_
    refine zeXp rfl rfl ?_
    refine zeXbS rfl rfl ?_
    exact zeRe rfl rfl rfl rfl (by rfl) (by rfl)
  | succ n ih =>
    intro p hk hp
    refine zeP rfl rfl ?_
    refine zeXp rfl rfl ?_
    refine zeP rfl rfl ?_
    refine zeXe hG.2.1 rfl rfl ?_
    refine zeB2 rfl rfl (fun h1 => ?_) (fun h1 => ?_)
    · refine zeP rfl rfl ?_
      refine zeP rfl rfl ?_
      refine zeXp rfl rfl ?_
      refine zeXbS rfl rfl ?_
      exact zeRe rfl rfl rfl rfl (by simp only [yl_look, h1, cond_true, cond_false] <;> rfl) (by simp only [yl_look, h1, cond_true, cond_false] <;> rfl)
    · refine zeP rfl rfl ?_
      refine zeGR rfl rfl zS128 rfl rfl ?_
      refine zeP rfl rfl ?_
      refine zeXp rfl rfl ?_
      refine zeXB (k := p) hG rfl (by have := tge_f (a := p) (b := e) (by omega) (by have := hG.2.2; omega) (by assumption); have := hG.2.2; omega) ?_
      refine zeKn (c := 32) rfl rfl rfl ?_
      refine zeB2 rfl rfl (fun h2 => ?_) (fun h2 => ?_)
      · refine zeP rfl rfl ?_
        refine zeP rfl rfl ?_
        refine zeXp rfl rfl ?_
        refine zeXbS rfl rfl ?_
        exact zeRe rfl rfl rfl rfl (by simp only [yl_look, h1, h2, cond_true, cond_false] <;> rfl) (by simp only [yl_look, h1, h2, cond_true, cond_false] <;> rfl)
      · refine zeP rfl rfl ?_
        refine zeP rfl rfl ?_
        refine zeXp rfl rfl ?_
        refine zeKn (c := 1) rfl rfl rfl ?_
        refine zeAdd rfl ?_
        refine zeXpS rfl rfl ?_
        refine zeP rfl rfl ?_
        simp only [yl_look, h1, h2, cond_true, cond_false]
        exact ih  ((p + 1)) (by omega) (by have := tge_f (a := p) (b := e) (by omega) (by have := hG.2.2; omega) (by assumption); have := hG.2.2; omega)
def lkB (T : Nat → Int32) (e p : Nat) : Nat := (yl_look T e (e - p) p).1
theorem yl_look_b (T : Nat → Int32) (e : Nat) : ∀ n p, (yl_look T e n p).2 = (yl_look T e n p).1 := by
  intro n
  induction n with
  | zero => intro p; rfl
  | succ n ih =>
    intro p
    unfold yl_look
    exact cnd4 (fun X : Nat × Nat => X.2 = X.1) (fun _ => rfl) (fun _ => cnd4 (fun X : Nat × Nat => X.2 = X.1) (fun _ => rfl) (fun _ => ih _))
theorem yl_look_le {T : Nat → Int32} {e : Nat} (he : e ≤ 400) : ∀ n p, p ≤ e → p ≤ (yl_look T e n p).1 ∧ (yl_look T e n p).1 ≤ e := by
  intro n
  induction n with
  | zero => intro p h; exact ⟨Nat.le_refl _, h⟩
  | succ n ih =>
    intro p h
    unfold yl_look
    refine cnd4 (fun X : Nat × Nat => p ≤ X.1 ∧ X.1 ≤ e) (fun _ => ⟨Nat.le_refl _, h⟩) (fun h1 => cnd4 (fun X : Nat × Nat => p ≤ X.1 ∧ X.1 ≤ e) (fun _ => ⟨Nat.le_refl _, h⟩) (fun _ => ?_))
    have := tge_f (by omega) (by omega) h1
    have := ih (p + 1) (by omega)
    exact ⟨by omega, this.2⟩
theorem lkB_le {T : Nat → Int32} {e p : Nat} (he : e ≤ 400) (h : p ≤ e) : p ≤ lkB T e p ∧ lkB T e p ≤ e := yl_look_le he _ p h
theorem yc_look {σ : Nat → Nat × (Nat → Int32)} {yy : (Nat → Nat → Int64) × Bool × Nat × Nat} {m : Nat → Nat → Int32} {p b : Nat} {T : Nat → Int32} {e : Nat} (hG : XR m T e) (hp : p ≤ e) : zF σ 1 1009 [.ref 128] (zS1, XP m p b, yy) (.inl none) (zS1, XP m (lkB T e p) (lkB T e p), yy) := by
  intro d hd
  obtain ⟨d, rfl⟩ : ∃ k, d = k + 1 := ⟨d - 1, by omega⟩
  have h := yw_look (σ := σ) (yy := yy) (m := m) (b := b) (T := T) (e := e) hd hG (e - p) p (by omega) (by have := hG.2.2; omega)
  rw [yl_look_b] at h
  exact h
def y_skipSign (T : (Nat → Int32)) (e : Nat) (p : Nat) (c : Nat) : Int32 × Nat := (bif zc2 .ge (Int32.ofNat p) (Int32.ofNat e) then ((Int32.ofNat 0), p) else (bif zc2 .ne (T p) (Int32.ofNat c) then ((Int32.ofNat 0), p) else ((Int32.ofNat 1), (p + 1))))
theorem yp_skipSign {σ : Nat → Nat × (Nat → Int32)} {yy : (Nat → Nat → Int64) × Bool × Nat × Nat} {m : Nat → Nat → Int32} {p b : Nat} {T : Nat → Int32} {e : Nat} {c : Nat} {d : Nat} (hd : 1 ≤ d + 1) (hG : XR m T e) (hp : p ≤ 400) : zEv σ (d + 1) 1010 0 [some (.ref 128), some (.int (Int32.ofNat c))] [] (zS1, XP m p b, yy) (.inl (some (.int (y_skipSign T e p c).1))) (zS1, XP m ((y_skipSign T e p c).2) b, yy) := by
  refine zeP rfl rfl ?_
  refine zeXp rfl rfl ?_
  refine zeP rfl rfl ?_
  refine zeXe hG.2.1 rfl rfl ?_
  refine zeB2 rfl rfl (fun h1 => ?_) (fun h1 => ?_)
  · refine zeKn (c := 0) rfl rfl rfl ?_
    exact zeRe rfl rfl rfl rfl (by simp only [y_skipSign, h1, cond_true, cond_false] <;> rfl) (by simp only [y_skipSign, h1, cond_true, cond_false] <;> rfl)
  · refine zeP rfl rfl ?_
    refine zeGR rfl rfl zS128 rfl rfl ?_
    refine zeP rfl rfl ?_
    refine zeXp rfl rfl ?_
    refine zeXB (k := p) hG rfl (by have := tge_f (a := p) (b := e) (by omega) (by have := hG.2.2; omega) (by assumption); have := hG.2.2; omega) ?_
    refine zeP rfl rfl ?_
    refine zeB2 rfl rfl (fun h2 => ?_) (fun h2 => ?_)
    · refine zeKn (c := 0) rfl rfl rfl ?_
      exact zeRe rfl rfl rfl rfl (by simp only [y_skipSign, h1, h2, cond_true, cond_false] <;> rfl) (by simp only [y_skipSign, h1, h2, cond_true, cond_false] <;> rfl)
    · refine zeP rfl rfl ?_
      refine zeP rfl rfl ?_
      refine zeXp rfl rfl ?_
      refine zeKn (c := 1) rfl rfl rfl ?_
      refine zeAdd rfl ?_
      refine zeXpS rfl rfl ?_
      refine zeKn (c := 1) rfl rfl rfl ?_
      exact zeRe rfl rfl rfl rfl (by simp only [y_skipSign, h1, h2, cond_true, cond_false] <;> rfl) (by simp only [y_skipSign, h1, h2, cond_true, cond_false] <;> rfl)
theorem yc_skipSign {σ : Nat → Nat × (Nat → Int32)} {yy : (Nat → Nat → Int64) × Bool × Nat × Nat} {m : Nat → Nat → Int32} {p b : Nat} {T : Nat → Int32} {e : Nat} {c : Nat} (hG : XR m T e) (hp : p ≤ 400) : zF σ 1 1010 [.ref 128, .int (Int32.ofNat c)] (zS1, XP m p b, yy) (.inl (some (.int (y_skipSign T e p c).1))) (zS1, XP m ((y_skipSign T e p c).2) b, yy) := by
  intro d hd
  obtain ⟨d, rfl⟩ : ∃ k, d = k + 1 := ⟨d - 1, by omega⟩
  exact yp_skipSign hd hG hp
def yl_name (T : (Nat → Int32)) (p : Nat) (b : Nat) (s : Nat) : Nat → Nat → Nat → Int32 → Nat → Int32
  | 0, nm, sm, df, k => (-1)
  | n + 1, nm, sm, df, k => (bif zc2 .eq (Int32.ofNat k) (Int32.ofNat (zby s).length) then (bif zc1 .ne df then (yl_name T p b s n ((nm + 1)) b ((Int32.ofNat 0)) ((k + 1))) else (bif zc2 .ne (Int32.ofNat sm) (Int32.ofNat p) then (yl_name T p b s n ((nm + 1)) b ((Int32.ofNat 0)) ((k + 1))) else (Int32.ofNat nm))) else (bif zc2 .ne ((zby s).getD k 0) (Int32.ofNat 32) then (bif zc2 .ge (Int32.ofNat sm) (Int32.ofNat p) then (yl_name T p b s n nm sm ((Int32.ofNat 1)) ((k + 1))) else (bif zc2 .ne (T sm) ((zby s).getD k 0) then (yl_name T p b s n nm sm ((Int32.ofNat 1)) ((k + 1))) else (yl_name T p b s n nm ((sm + 1)) df ((k + 1))))) else (bif zc1 .ne df then (yl_name T p b s n ((nm + 1)) b ((Int32.ofNat 0)) ((k + 1))) else (bif zc2 .ne (Int32.ofNat sm) (Int32.ofNat p) then (yl_name T p b s n ((nm + 1)) b ((Int32.ofNat 0)) ((k + 1))) else (Int32.ofNat nm)))))
theorem yw_name {σ : Nat → Nat × (Nat → Int32)} {yy : (Nat → Nat → Int64) × Bool × Nat × Nat} {m : (Nat → Nat → Int32)} {p : Nat} {b : Nat} {T : Nat → Int32} {e : Nat} {s : Nat} {d : Nat} (hd : 1 ≤ d + 1) (hG : XR m T e) (hq : s < 37) (hp : p ≤ 400) (hbp : b ≤ p) : ∀ (n : Nat) (nm : Nat) (sm : Nat) (df : Int32) (k : Nat), k + n = (zby s).length + 1 → (sm ≤ p) → zEv σ (d + 1) 1011 69 [some (.ref 128), some (.ref (1100 + s)), some (.int (Int32.ofNat nm)), some (.int (Int32.ofNat sm)), some (.int df), some (.int (Int32.ofNat k))] [] (zS1, XP m p b, yy) (.inl (some (.int (yl_name T p b s n nm sm df k)))) (zS1, XP m p b, yy) := by
  intro n
  induction n with
  | zero =>
    intro nm sm df k hk hsm
    refine zeP rfl rfl ?_
    refine zeP rfl rfl ?_
    refine zeLn hq rfl rfl rfl rfl rfl ?_
    refine zeT2 rfl rfl (tgt_t (by have := zby_len s hq; omega) (by have := zby_len s hq; omega) (by omega)) ?_
    refine zeK (v := -1) rfl rfl rfl ?_
    exact zeRe rfl rfl rfl rfl (by rfl) (by rfl)
  | succ n ih =>
    intro nm sm df k hk hsm
    refine zeP rfl rfl ?_
    refine zeP rfl rfl ?_
    refine zeLn hq rfl rfl rfl rfl rfl ?_
    refine zeF2 rfl rfl (tgt_f (by have := zby_len s hq; omega) (by have := zby_len s hq; omega) (by omega)) ?_
    refine zeP rfl rfl ?_
    refine zeP rfl rfl ?_
    refine zeLn hq rfl rfl rfl rfl rfl ?_
    refine zeB2 rfl rfl (fun h1 => ?_) (fun h1 => ?_)
    · refine zeP rfl rfl ?_
      refine zeB1 rfl rfl (fun h2 => ?_) (fun h2 => ?_)
      · refine zeInc rfl rfl ?_
        refine zeP rfl rfl ?_
        refine zeXb rfl rfl ?_
        refine zeP rfl rfl ?_
        refine zeKn (c := 0) rfl rfl rfl ?_
        refine zeP rfl rfl ?_
        refine zeP rfl rfl ?_
        refine zeInc rfl rfl ?_
        refine zeP rfl rfl ?_
        simp only [yl_name, h1, h2, cond_true, cond_false]
        exact ih ((nm + 1)) (b) ((Int32.ofNat 0)) ((k + 1))  (by omega) (by first | omega | (have := tge_f (a := sm) (b := p) (by omega) (by omega) (by assumption); omega))
      · refine zeP rfl rfl ?_
        refine zeP rfl rfl ?_
        refine zeXp rfl rfl ?_
        refine zeB2 rfl rfl (fun h3 => ?_) (fun h3 => ?_)
        · refine zeInc rfl rfl ?_
          refine zeP rfl rfl ?_
          refine zeXb rfl rfl ?_
          refine zeP rfl rfl ?_
          refine zeKn (c := 0) rfl rfl rfl ?_
          refine zeP rfl rfl ?_
          refine zeP rfl rfl ?_
          refine zeInc rfl rfl ?_
          refine zeP rfl rfl ?_
          simp only [yl_name, h1, h2, h3, cond_true, cond_false]
          exact ih ((nm + 1)) (b) ((Int32.ofNat 0)) ((k + 1))  (by omega) (by first | omega | (have := tge_f (a := sm) (b := p) (by omega) (by omega) (by assumption); omega))
        · refine zeP rfl rfl ?_
          exact zeRe rfl rfl rfl rfl (by simp only [yl_name, h1, h2, h3, cond_true, cond_false] <;> rfl) (by simp only [yl_name, h1, h2, h3, cond_true, cond_false] <;> rfl)
    · refine zeP rfl rfl ?_
      refine zeP rfl rfl ?_
      refine zeCh hq (by have := teqf_ne (a := k) (b := (zby s).length) (by assumption); omega) rfl rfl rfl rfl rfl ?_
      refine zeKn (c := 32) rfl rfl rfl ?_
      refine zeB2 rfl rfl (fun h4 => ?_) (fun h4 => ?_)
      · refine zeP rfl rfl ?_
        refine zeP rfl rfl ?_
        refine zeXp rfl rfl ?_
        refine zeB2 rfl rfl (fun h5 => ?_) (fun h5 => ?_)
        · refine zeKn (c := 1) rfl rfl rfl ?_
          refine zeP rfl rfl ?_
          refine zeInc rfl rfl ?_
          refine zeP rfl rfl ?_
          simp only [yl_name, h1, h4, h5, cond_true, cond_false]
          exact ih (nm) (sm) ((Int32.ofNat 1)) ((k + 1))  (by omega) (by first | omega | (have := tge_f (a := sm) (b := p) (by omega) (by omega) (by assumption); omega))
        · refine zeP rfl rfl ?_
          refine zeGR rfl rfl zS128 rfl rfl ?_
          refine zeP rfl rfl ?_
          refine zeXB (k := sm) hG rfl (by have := tge_f (a := sm) (b := p) (by omega) (by omega) (by assumption); omega) ?_
          refine zeP rfl rfl ?_
          refine zeP rfl rfl ?_
          refine zeCh hq (by have := teqf_ne (a := k) (b := (zby s).length) (by assumption); omega) rfl rfl rfl rfl rfl ?_
          refine zeB2 rfl rfl (fun h6 => ?_) (fun h6 => ?_)
          · refine zeKn (c := 1) rfl rfl rfl ?_
            refine zeP rfl rfl ?_
            refine zeInc rfl rfl ?_
            refine zeP rfl rfl ?_
            simp only [yl_name, h1, h4, h5, h6, cond_true, cond_false]
            exact ih (nm) (sm) ((Int32.ofNat 1)) ((k + 1))  (by omega) (by first | omega | (have := tge_f (a := sm) (b := p) (by omega) (by omega) (by assumption); omega))
          · refine zeInc rfl rfl ?_
            refine zeP rfl rfl ?_
            refine zeInc rfl rfl ?_
            refine zeP rfl rfl ?_
            simp only [yl_name, h1, h4, h5, h6, cond_true, cond_false]
            exact ih (nm) ((sm + 1)) (df) ((k + 1))  (by omega) (by first | omega | (have := tge_f (a := sm) (b := p) (by omega) (by omega) (by assumption); omega))
      · refine zeP rfl rfl ?_
        refine zeB1 rfl rfl (fun h7 => ?_) (fun h7 => ?_)
        · refine zeInc rfl rfl ?_
          refine zeP rfl rfl ?_
          refine zeXb rfl rfl ?_
          refine zeP rfl rfl ?_
          refine zeKn (c := 0) rfl rfl rfl ?_
          refine zeP rfl rfl ?_
          refine zeP rfl rfl ?_
          refine zeInc rfl rfl ?_
          refine zeP rfl rfl ?_
          simp only [yl_name, h1, h4, h7, cond_true, cond_false]
          exact ih ((nm + 1)) (b) ((Int32.ofNat 0)) ((k + 1))  (by omega) (by first | omega | (have := tge_f (a := sm) (b := p) (by omega) (by omega) (by assumption); omega))
        · refine zeP rfl rfl ?_
          refine zeP rfl rfl ?_
          refine zeXp rfl rfl ?_
          refine zeB2 rfl rfl (fun h8 => ?_) (fun h8 => ?_)
          · refine zeInc rfl rfl ?_
            refine zeP rfl rfl ?_
            refine zeXb rfl rfl ?_
            refine zeP rfl rfl ?_
            refine zeKn (c := 0) rfl rfl rfl ?_
            refine zeP rfl rfl ?_
            refine zeP rfl rfl ?_
            refine zeInc rfl rfl ?_
            refine zeP rfl rfl ?_
            simp only [yl_name, h1, h4, h7, h8, cond_true, cond_false]
            exact ih ((nm + 1)) (b) ((Int32.ofNat 0)) ((k + 1))  (by omega) (by first | omega | (have := tge_f (a := sm) (b := p) (by omega) (by omega) (by assumption); omega))
          · refine zeP rfl rfl ?_
            exact zeRe rfl rfl rfl rfl (by simp only [yl_name, h1, h4, h7, h8, cond_true, cond_false] <;> rfl) (by simp only [yl_name, h1, h4, h7, h8, cond_true, cond_false] <;> rfl)
def yl_nameA (T : (Nat → Int32)) (e : Nat) (b : Nat) (s : Nat) : Nat → Nat → Int32 × Nat
  | 0, p => ((yl_name T p b s (((zby s).length + 1)) 0 b ((Int32.ofNat 0)) 0), p)
  | n + 1, p => (bif zc2 .ge (Int32.ofNat p) (Int32.ofNat e) then ((yl_name T p b s (((zby s).length + 1)) 0 b ((Int32.ofNat 0)) 0), p) else (bif zc2 .lt (T p) (Int32.ofNat 97) then ((yl_name T p b s (((zby s).length + 1)) 0 b ((Int32.ofNat 0)) 0), p) else (bif zc2 .gt (T p) (Int32.ofNat 122) then ((yl_name T p b s (((zby s).length + 1)) 0 b ((Int32.ofNat 0)) 0), p) else (yl_nameA T e b s n ((p + 1))))))
theorem yw_nameA {σ : Nat → Nat × (Nat → Int32)} {yy : (Nat → Nat → Int64) × Bool × Nat × Nat} {m : (Nat → Nat → Int32)} {b : Nat} {T : Nat → Int32} {e : Nat} {s : Nat} {d : Nat} (hd : 1 ≤ d + 1) (hG : XR m T e) (hq : s < 37) : ∀ (n : Nat) (p : Nat), e ≤ p + n → (p ≤ 400) → (b ≤ p) → zEv σ (d + 1) 1011 4 [some (.ref 128), some (.ref (1100 + s)), none, none, none, none] [] (zS1, XP m p b, yy) (.inl (some (.int (yl_nameA T e b s n p).1))) (zS1, XP m ((yl_nameA T e b s n p).2) b, yy) := by
  intro n
  induction n with
  | zero =>
    intro p hk hp hbp
    refine zeP rfl rfl ?_
    refine zeXp rfl rfl ?_
    refine zeP rfl rfl ?_
    refine zeXe hG.2.1 rfl rfl ?_
    refine zeT2 rfl rfl (zcge (by omega) (by have := hG.2.2; omega) (by omega)) ?_
    refine zeKn (c := 0) rfl rfl rfl ?_
    refine zeP rfl rfl ?_
    refine zeP rfl rfl ?_
    refine zeXb rfl rfl ?_
    refine zeP rfl rfl ?_
    refine zeKn (c := 0) rfl rfl rfl ?_
    refine zeP rfl rfl ?_
    refine zeKn (c := 0) rfl rfl rfl ?_
    refine zeP rfl rfl ?_
    simp only [yl_nameA, cond_true, cond_false]
    exact yw_name (s := s) (T := T) (e := e) (m := m) (p := p) (b := b) (by omega) hG hq hp hbp (((zby s).length + 1)) (0) (b) ((Int32.ofNat 0)) (0)  (by omega) hbp
  | succ n ih =>
    intro p hk hp hbp
    refine zeP rfl rfl ?_
    refine zeXp rfl rfl ?_
    refine zeP rfl rfl ?_
    refine zeXe hG.2.1 rfl rfl ?_
    refine zeB2 rfl rfl (fun h1 => ?_) (fun h1 => ?_)
    · refine zeKn (c := 0) rfl rfl rfl ?_
      refine zeP rfl rfl ?_
      refine zeP rfl rfl ?_
      refine zeXb rfl rfl ?_
      refine zeP rfl rfl ?_
      refine zeKn (c := 0) rfl rfl rfl ?_
      refine zeP rfl rfl ?_
      refine zeKn (c := 0) rfl rfl rfl ?_
      refine zeP rfl rfl ?_
      simp only [yl_nameA, h1, cond_true, cond_false]
      exact yw_name (s := s) (T := T) (e := e) (m := m) (p := p) (b := b) (by omega) hG hq hp hbp (((zby s).length + 1)) (0) (b) ((Int32.ofNat 0)) (0)  (by omega) hbp
    · refine zeP rfl rfl ?_
      refine zeGR rfl rfl zS128 rfl rfl ?_
      refine zeP rfl rfl ?_
      refine zeXp rfl rfl ?_
      refine zeXB (k := p) hG rfl (by have := tge_f (a := p) (b := e) (by omega) (by have := hG.2.2; omega) (by assumption); have := hG.2.2; omega) ?_
      refine zeKn (c := 97) rfl rfl rfl ?_
      refine zeB2 rfl rfl (fun h2 => ?_) (fun h2 => ?_)
      · refine zeKn (c := 0) rfl rfl rfl ?_
        refine zeP rfl rfl ?_
        refine zeP rfl rfl ?_
        refine zeXb rfl rfl ?_
        refine zeP rfl rfl ?_
        refine zeKn (c := 0) rfl rfl rfl ?_
        refine zeP rfl rfl ?_
        refine zeKn (c := 0) rfl rfl rfl ?_
        refine zeP rfl rfl ?_
        simp only [yl_nameA, h1, h2, cond_true, cond_false]
        exact yw_name (s := s) (T := T) (e := e) (m := m) (p := p) (b := b) (by omega) hG hq hp hbp (((zby s).length + 1)) (0) (b) ((Int32.ofNat 0)) (0)  (by omega) hbp
      · refine zeP rfl rfl ?_
        refine zeGR rfl rfl zS128 rfl rfl ?_
        refine zeP rfl rfl ?_
        refine zeXp rfl rfl ?_
        refine zeXB (k := p) hG rfl (by have := tge_f (a := p) (b := e) (by omega) (by have := hG.2.2; omega) (by assumption); have := hG.2.2; omega) ?_
        refine zeKn (c := 122) rfl rfl rfl ?_
        refine zeB2 rfl rfl (fun h3 => ?_) (fun h3 => ?_)
        · refine zeKn (c := 0) rfl rfl rfl ?_
          refine zeP rfl rfl ?_
          refine zeP rfl rfl ?_
          refine zeXb rfl rfl ?_
          refine zeP rfl rfl ?_
          refine zeKn (c := 0) rfl rfl rfl ?_
          refine zeP rfl rfl ?_
          refine zeKn (c := 0) rfl rfl rfl ?_
          refine zeP rfl rfl ?_
          simp only [yl_nameA, h1, h2, h3, cond_true, cond_false]
          exact yw_name (s := s) (T := T) (e := e) (m := m) (p := p) (b := b) (by omega) hG hq hp hbp (((zby s).length + 1)) (0) (b) ((Int32.ofNat 0)) (0)  (by omega) hbp
        · refine zeP rfl rfl ?_
          refine zeP rfl rfl ?_
          refine zeXp rfl rfl ?_
          refine zeKn (c := 1) rfl rfl rfl ?_
          refine zeAdd rfl ?_
          refine zeXpS rfl rfl ?_
          refine zeP rfl rfl ?_
          simp only [yl_nameA, h1, h2, h3, cond_true, cond_false]
          exact ih  ((p + 1)) (by omega) (by have := tge_f (a := p) (b := e) (by omega) (by have := hG.2.2; omega) (by assumption); have := hG.2.2; omega) (by omega)
def y_readName (T : (Nat → Int32)) (e : Nat) (p : Nat) (s : Nat) : Int32 × Nat × Nat := ((yl_nameA T e ((lkB T e p)) s ((e - lkB T e p)) ((lkB T e p))).1, (yl_nameA T e ((lkB T e p)) s ((e - lkB T e p)) ((lkB T e p))).2, (lkB T e p))
theorem yp_readName {σ : Nat → Nat × (Nat → Int32)} {yy : (Nat → Nat → Int64) × Bool × Nat × Nat} {m : Nat → Nat → Int32} {p b : Nat} {T : Nat → Int32} {e : Nat} {s : Nat} {d : Nat} (hd : 2 ≤ d + 1) (hG : XR m T e) (hq : s < 37) (hp : p ≤ e) : zEv σ (d + 1) 1011 0 [some (.ref 128), some (.ref (1100 + s)), none, none, none, none] [] (zS1, XP m p b, yy) (.inl (some (.int (y_readName T e p s).1))) (zS1, XP m ((y_readName T e p s).2.1) ((y_readName T e p s).2.2), yy) := by
  refine zeP rfl rfl ?_
  refine zeCV rfl rfl rfl rfl zS128 rfl (yc_look (m := m) (p := p) (b := b) (T := T) (e := e) hG hp) (by omega) ?_
  dsimp only [Option.toList, List.cons_append, List.nil_append]
  simp only [y_readName, cond_true, cond_false]
  exact yw_nameA (s := s) (T := T) (e := e) (m := m) (b := (lkB T e p)) (by omega) hG hq ((e - lkB T e p))  ((lkB T e p)) (by omega) (by have := (lkB_le (T := T) hG.2.2 hp).2; have := hG.2.2; omega) (Nat.le_refl _)
theorem yc_readName {σ : Nat → Nat × (Nat → Int32)} {yy : (Nat → Nat → Int64) × Bool × Nat × Nat} {m : Nat → Nat → Int32} {p b : Nat} {T : Nat → Int32} {e : Nat} {s : Nat} (hG : XR m T e) (hq : s < 37) (hp : p ≤ e) : zF σ 2 1011 [.ref 128, .ref (1100 + s)] (zS1, XP m p b, yy) (.inl (some (.int (y_readName T e p s).1))) (zS1, XP m ((y_readName T e p s).2.1) ((y_readName T e p s).2.2), yy) := by
  intro d hd
  obtain ⟨d, rfl⟩ : ∃ k, d = k + 1 := ⟨d - 1, by omega⟩
  exact yp_readName hd hG hq hp
def yl_num (T : (Nat → Int32)) (e : Nat) (b : Nat) (lo : Int32) (hi : Int32) : Nat → Int32 → Nat → Int32 × Nat
  | 0, v, p => (bif zc2 .lt (Int32.ofNat (p - b)) (Int32.ofNat 1) then ((-1), p) else (bif zc2 .gt (Int32.ofNat (p - b)) (Int32.ofNat 4) then ((-1), p) else (bif zc2 .lt v lo then ((-1), p) else (bif zc2 .gt v hi then ((-1), p) else (v, p)))))
  | n + 1, v, p => (bif zc2 .ge (Int32.ofNat p) (Int32.ofNat e) then (bif zc2 .lt (Int32.ofNat (p - b)) (Int32.ofNat 1) then ((-1), p) else (bif zc2 .gt (Int32.ofNat (p - b)) (Int32.ofNat 4) then ((-1), p) else (bif zc2 .lt v lo then ((-1), p) else (bif zc2 .gt v hi then ((-1), p) else (v, p))))) else (bif zc2 .lt (T p) (Int32.ofNat 48) then (bif zc2 .lt (Int32.ofNat (p - b)) (Int32.ofNat 1) then ((-1), p) else (bif zc2 .gt (Int32.ofNat (p - b)) (Int32.ofNat 4) then ((-1), p) else (bif zc2 .lt v lo then ((-1), p) else (bif zc2 .gt v hi then ((-1), p) else (v, p))))) else (bif zc2 .gt (T p) (Int32.ofNat 57) then (bif zc2 .lt (Int32.ofNat (p - b)) (Int32.ofNat 1) then ((-1), p) else (bif zc2 .gt (Int32.ofNat (p - b)) (Int32.ofNat 4) then ((-1), p) else (bif zc2 .lt v lo then ((-1), p) else (bif zc2 .gt v hi then ((-1), p) else (v, p))))) else (bif zc2 .ge (Int32.ofNat (p - b)) (Int32.ofNat 4) then (yl_num T e b lo hi n v ((p + 1))) else (yl_num T e b lo hi n (((v * (Int32.ofNat 10)) + ((T p) - (Int32.ofNat 48)))) ((p + 1)))))))
theorem yw_num {σ : Nat → Nat × (Nat → Int32)} {yy : (Nat → Nat → Int64) × Bool × Nat × Nat} {m : (Nat → Nat → Int32)} {b : Nat} {T : Nat → Int32} {e : Nat} {lo : Int32} {hi : Int32} {d : Nat} (hd : 1 ≤ d + 1) (hG : XR m T e) : ∀ (n : Nat) (v : Int32) (p : Nat), e ≤ p + n → (p ≤ 400) → (b ≤ p) → zEv σ (d + 1) 1012 6 [some (.ref 128), some (.int lo), some (.int hi), some (.int v), none, none] [] (zS1, XP m p b, yy) (.inl (some (.int (yl_num T e b lo hi n v p).1))) (zS1, XP m ((yl_num T e b lo hi n v p).2) b, yy) := by
  intro n
  induction n with
  | zero =>
    intro v p hk hp hbp
    refine zeP rfl rfl ?_
    refine zeXp rfl rfl ?_
    refine zeP rfl rfl ?_
    refine zeXe hG.2.1 rfl rfl ?_
    refine zeT2 rfl rfl (zcge (by omega) (by have := hG.2.2; omega) (by omega)) ?_
    refine zeP rfl rfl ?_
    refine zeXp rfl rfl ?_
    refine zeP rfl rfl ?_
    refine zeXb rfl rfl ?_
    refine zeSub rfl hbp ?_
    refine zeP rfl rfl ?_
    refine zeP rfl rfl ?_
    refine zeKn (c := 1) rfl rfl rfl ?_
    refine zeB2 rfl rfl (fun h1 => ?_) (fun h1 => ?_)
    · refine zeKn (c := 0) rfl rfl rfl ?_
      refine zeP rfl rfl ?_
      refine zeP rfl rfl ?_
      refine zeT1 rfl rfl (show zc1 .eq (Int32.ofNat 0) = true by decide) ?_
      refine zeK (v := -1) rfl rfl rfl ?_
      exact zeRe rfl rfl rfl rfl (by simp only [yl_num, h1, cond_true, cond_false] <;> rfl) (by simp only [yl_num, h1, cond_true, cond_false] <;> rfl)
    · refine zeP rfl rfl ?_
      refine zeKn (c := 4) rfl rfl rfl ?_
      refine zeB2 rfl rfl (fun h2 => ?_) (fun h2 => ?_)
      · refine zeKn (c := 0) rfl rfl rfl ?_
        refine zeP rfl rfl ?_
        refine zeP rfl rfl ?_
        refine zeT1 rfl rfl (show zc1 .eq (Int32.ofNat 0) = true by decide) ?_
        refine zeK (v := -1) rfl rfl rfl ?_
        exact zeRe rfl rfl rfl rfl (by simp only [yl_num, h1, h2, cond_true, cond_false] <;> rfl) (by simp only [yl_num, h1, h2, cond_true, cond_false] <;> rfl)
      · refine zeP rfl rfl ?_
        refine zeP rfl rfl ?_
        refine zeB2 rfl rfl (fun h3 => ?_) (fun h3 => ?_)
        · refine zeKn (c := 0) rfl rfl rfl ?_
          refine zeP rfl rfl ?_
          refine zeP rfl rfl ?_
          refine zeT1 rfl rfl (show zc1 .eq (Int32.ofNat 0) = true by decide) ?_
          refine zeK (v := -1) rfl rfl rfl ?_
          exact zeRe rfl rfl rfl rfl (by simp only [yl_num, h1, h2, h3, cond_true, cond_false] <;> rfl) (by simp only [yl_num, h1, h2, h3, cond_true, cond_false] <;> rfl)
        · refine zeP rfl rfl ?_
          refine zeP rfl rfl ?_
          refine zeB2 rfl rfl (fun h4 => ?_) (fun h4 => ?_)
          · refine zeKn (c := 0) rfl rfl rfl ?_
            refine zeP rfl rfl ?_
            refine zeP rfl rfl ?_
            refine zeT1 rfl rfl (show zc1 .eq (Int32.ofNat 0) = true by decide) ?_
            refine zeK (v := -1) rfl rfl rfl ?_
            exact zeRe rfl rfl rfl rfl (by simp only [yl_num, h1, h2, h3, h4, cond_true, cond_false] <;> rfl) (by simp only [yl_num, h1, h2, h3, h4, cond_true, cond_false] <;> rfl)
          · refine zeKn (c := 1) rfl rfl rfl ?_
            refine zeP rfl rfl ?_
            refine zeP rfl rfl ?_
            refine zeP rfl rfl ?_
            refine zeF1 rfl rfl (show zc1 .eq (Int32.ofNat 1) = false by decide) ?_
            refine zeP rfl rfl ?_
            refine zeP rfl rfl ?_
            exact zeRe rfl rfl rfl rfl (by simp only [yl_num, h1, h2, h3, h4, cond_true, cond_false] <;> rfl) (by simp only [yl_num, h1, h2, h3, h4, cond_true, cond_false] <;> rfl)
  | succ n ih =>
    intro v p hk hp hbp
    refine zeP rfl rfl ?_
    refine zeXp rfl rfl ?_
    refine zeP rfl rfl ?_
    refine zeXe hG.2.1 rfl rfl ?_
    refine zeB2 rfl rfl (fun h1 => ?_) (fun h1 => ?_)
    · refine zeP rfl rfl ?_
      refine zeXp rfl rfl ?_
      refine zeP rfl rfl ?_
      refine zeXb rfl rfl ?_
      refine zeSub rfl hbp ?_
      refine zeP rfl rfl ?_
      refine zeP rfl rfl ?_
      refine zeKn (c := 1) rfl rfl rfl ?_
      refine zeB2 rfl rfl (fun h2 => ?_) (fun h2 => ?_)
      · refine zeKn (c := 0) rfl rfl rfl ?_
        refine zeP rfl rfl ?_
        refine zeP rfl rfl ?_
        refine zeT1 rfl rfl (show zc1 .eq (Int32.ofNat 0) = true by decide) ?_
        refine zeK (v := -1) rfl rfl rfl ?_
        exact zeRe rfl rfl rfl rfl (by simp only [yl_num, h1, h2, cond_true, cond_false] <;> rfl) (by simp only [yl_num, h1, h2, cond_true, cond_false] <;> rfl)
      · refine zeP rfl rfl ?_
        refine zeKn (c := 4) rfl rfl rfl ?_
        refine zeB2 rfl rfl (fun h3 => ?_) (fun h3 => ?_)
        · refine zeKn (c := 0) rfl rfl rfl ?_
          refine zeP rfl rfl ?_
          refine zeP rfl rfl ?_
          refine zeT1 rfl rfl (show zc1 .eq (Int32.ofNat 0) = true by decide) ?_
          refine zeK (v := -1) rfl rfl rfl ?_
          exact zeRe rfl rfl rfl rfl (by simp only [yl_num, h1, h2, h3, cond_true, cond_false] <;> rfl) (by simp only [yl_num, h1, h2, h3, cond_true, cond_false] <;> rfl)
        · refine zeP rfl rfl ?_
          refine zeP rfl rfl ?_
          refine zeB2 rfl rfl (fun h4 => ?_) (fun h4 => ?_)
          · refine zeKn (c := 0) rfl rfl rfl ?_
            refine zeP rfl rfl ?_
            refine zeP rfl rfl ?_
            refine zeT1 rfl rfl (show zc1 .eq (Int32.ofNat 0) = true by decide) ?_
            refine zeK (v := -1) rfl rfl rfl ?_
            exact zeRe rfl rfl rfl rfl (by simp only [yl_num, h1, h2, h3, h4, cond_true, cond_false] <;> rfl) (by simp only [yl_num, h1, h2, h3, h4, cond_true, cond_false] <;> rfl)
          · refine zeP rfl rfl ?_
            refine zeP rfl rfl ?_
            refine zeB2 rfl rfl (fun h5 => ?_) (fun h5 => ?_)
            · refine zeKn (c := 0) rfl rfl rfl ?_
              refine zeP rfl rfl ?_
              refine zeP rfl rfl ?_
              refine zeT1 rfl rfl (show zc1 .eq (Int32.ofNat 0) = true by decide) ?_
              refine zeK (v := -1) rfl rfl rfl ?_
              exact zeRe rfl rfl rfl rfl (by simp only [yl_num, h1, h2, h3, h4, h5, cond_true, cond_false] <;> rfl) (by simp only [yl_num, h1, h2, h3, h4, h5, cond_true, cond_false] <;> rfl)
            · refine zeKn (c := 1) rfl rfl rfl ?_
              refine zeP rfl rfl ?_
              refine zeP rfl rfl ?_
              refine zeP rfl rfl ?_
              refine zeF1 rfl rfl (show zc1 .eq (Int32.ofNat 1) = false by decide) ?_
              refine zeP rfl rfl ?_
              refine zeP rfl rfl ?_
              exact zeRe rfl rfl rfl rfl (by simp only [yl_num, h1, h2, h3, h4, h5, cond_true, cond_false] <;> rfl) (by simp only [yl_num, h1, h2, h3, h4, h5, cond_true, cond_false] <;> rfl)
    · refine zeP rfl rfl ?_
      refine zeGR rfl rfl zS128 rfl rfl ?_
      refine zeP rfl rfl ?_
      refine zeXp rfl rfl ?_
      refine zeXB (k := p) hG rfl (by have := tge_f (a := p) (b := e) (by omega) (by have := hG.2.2; omega) (by assumption); have := hG.2.2; omega) ?_
      refine zeKn (c := 48) rfl rfl rfl ?_
      refine zeB2 rfl rfl (fun h6 => ?_) (fun h6 => ?_)
      · refine zeP rfl rfl ?_
        refine zeXp rfl rfl ?_
        refine zeP rfl rfl ?_
        refine zeXb rfl rfl ?_
        refine zeSub rfl hbp ?_
        refine zeP rfl rfl ?_
        refine zeP rfl rfl ?_
        refine zeKn (c := 1) rfl rfl rfl ?_
        refine zeB2 rfl rfl (fun h7 => ?_) (fun h7 => ?_)
        · refine zeKn (c := 0) rfl rfl rfl ?_
          refine zeP rfl rfl ?_
          refine zeP rfl rfl ?_
          refine zeT1 rfl rfl (show zc1 .eq (Int32.ofNat 0) = true by decide) ?_
          refine zeK (v := -1) rfl rfl rfl ?_
          exact zeRe rfl rfl rfl rfl (by simp only [yl_num, h1, h6, h7, cond_true, cond_false] <;> rfl) (by simp only [yl_num, h1, h6, h7, cond_true, cond_false] <;> rfl)
        · refine zeP rfl rfl ?_
          refine zeKn (c := 4) rfl rfl rfl ?_
          refine zeB2 rfl rfl (fun h8 => ?_) (fun h8 => ?_)
          · refine zeKn (c := 0) rfl rfl rfl ?_
            refine zeP rfl rfl ?_
            refine zeP rfl rfl ?_
            refine zeT1 rfl rfl (show zc1 .eq (Int32.ofNat 0) = true by decide) ?_
            refine zeK (v := -1) rfl rfl rfl ?_
            exact zeRe rfl rfl rfl rfl (by simp only [yl_num, h1, h6, h7, h8, cond_true, cond_false] <;> rfl) (by simp only [yl_num, h1, h6, h7, h8, cond_true, cond_false] <;> rfl)
          · refine zeP rfl rfl ?_
            refine zeP rfl rfl ?_
            refine zeB2 rfl rfl (fun h9 => ?_) (fun h9 => ?_)
            · refine zeKn (c := 0) rfl rfl rfl ?_
              refine zeP rfl rfl ?_
              refine zeP rfl rfl ?_
              refine zeT1 rfl rfl (show zc1 .eq (Int32.ofNat 0) = true by decide) ?_
              refine zeK (v := -1) rfl rfl rfl ?_
              exact zeRe rfl rfl rfl rfl (by simp only [yl_num, h1, h6, h7, h8, h9, cond_true, cond_false] <;> rfl) (by simp only [yl_num, h1, h6, h7, h8, h9, cond_true, cond_false] <;> rfl)
            · refine zeP rfl rfl ?_
              refine zeP rfl rfl ?_
              refine zeB2 rfl rfl (fun h10 => ?_) (fun h10 => ?_)
              · refine zeKn (c := 0) rfl rfl rfl ?_
                refine zeP rfl rfl ?_
                refine zeP rfl rfl ?_
                refine zeT1 rfl rfl (show zc1 .eq (Int32.ofNat 0) = true by decide) ?_
                refine zeK (v := -1) rfl rfl rfl ?_
                exact zeRe rfl rfl rfl rfl (by simp only [yl_num, h1, h6, h7, h8, h9, h10, cond_true, cond_false] <;> rfl) (by simp only [yl_num, h1, h6, h7, h8, h9, h10, cond_true, cond_false] <;> rfl)
              · refine zeKn (c := 1) rfl rfl rfl ?_
                refine zeP rfl rfl ?_
                refine zeP rfl rfl ?_
                refine zeP rfl rfl ?_
                refine zeF1 rfl rfl (show zc1 .eq (Int32.ofNat 1) = false by decide) ?_
                refine zeP rfl rfl ?_
                refine zeP rfl rfl ?_
                exact zeRe rfl rfl rfl rfl (by simp only [yl_num, h1, h6, h7, h8, h9, h10, cond_true, cond_false] <;> rfl) (by simp only [yl_num, h1, h6, h7, h8, h9, h10, cond_true, cond_false] <;> rfl)
      · refine zeP rfl rfl ?_
        refine zeGR rfl rfl zS128 rfl rfl ?_
        refine zeP rfl rfl ?_
        refine zeXp rfl rfl ?_
        refine zeXB (k := p) hG rfl (by have := tge_f (a := p) (b := e) (by omega) (by have := hG.2.2; omega) (by assumption); have := hG.2.2; omega) ?_
        refine zeKn (c := 57) rfl rfl rfl ?_
        refine zeB2 rfl rfl (fun h11 => ?_) (fun h11 => ?_)
        · refine zeP rfl rfl ?_
          refine zeXp rfl rfl ?_
          refine zeP rfl rfl ?_
          refine zeXb rfl rfl ?_
          refine zeSub rfl hbp ?_
          refine zeP rfl rfl ?_
          refine zeP rfl rfl ?_
          refine zeKn (c := 1) rfl rfl rfl ?_
          refine zeB2 rfl rfl (fun h12 => ?_) (fun h12 => ?_)
          · refine zeKn (c := 0) rfl rfl rfl ?_
            refine zeP rfl rfl ?_
            refine zeP rfl rfl ?_
            refine zeT1 rfl rfl (show zc1 .eq (Int32.ofNat 0) = true by decide) ?_
            refine zeK (v := -1) rfl rfl rfl ?_
            exact zeRe rfl rfl rfl rfl (by simp only [yl_num, h1, h6, h11, h12, cond_true, cond_false] <;> rfl) (by simp only [yl_num, h1, h6, h11, h12, cond_true, cond_false] <;> rfl)
          · refine zeP rfl rfl ?_
            refine zeKn (c := 4) rfl rfl rfl ?_
            refine zeB2 rfl rfl (fun h13 => ?_) (fun h13 => ?_)
            · refine zeKn (c := 0) rfl rfl rfl ?_
              refine zeP rfl rfl ?_
              refine zeP rfl rfl ?_
              refine zeT1 rfl rfl (show zc1 .eq (Int32.ofNat 0) = true by decide) ?_
              refine zeK (v := -1) rfl rfl rfl ?_
              exact zeRe rfl rfl rfl rfl (by simp only [yl_num, h1, h6, h11, h12, h13, cond_true, cond_false] <;> rfl) (by simp only [yl_num, h1, h6, h11, h12, h13, cond_true, cond_false] <;> rfl)
            · refine zeP rfl rfl ?_
              refine zeP rfl rfl ?_
              refine zeB2 rfl rfl (fun h14 => ?_) (fun h14 => ?_)
              · refine zeKn (c := 0) rfl rfl rfl ?_
                refine zeP rfl rfl ?_
                refine zeP rfl rfl ?_
                refine zeT1 rfl rfl (show zc1 .eq (Int32.ofNat 0) = true by decide) ?_
                refine zeK (v := -1) rfl rfl rfl ?_
                exact zeRe rfl rfl rfl rfl (by simp only [yl_num, h1, h6, h11, h12, h13, h14, cond_true, cond_false] <;> rfl) (by simp only [yl_num, h1, h6, h11, h12, h13, h14, cond_true, cond_false] <;> rfl)
              · refine zeP rfl rfl ?_
                refine zeP rfl rfl ?_
                refine zeB2 rfl rfl (fun h15 => ?_) (fun h15 => ?_)
                · refine zeKn (c := 0) rfl rfl rfl ?_
                  refine zeP rfl rfl ?_
                  refine zeP rfl rfl ?_
                  refine zeT1 rfl rfl (show zc1 .eq (Int32.ofNat 0) = true by decide) ?_
                  refine zeK (v := -1) rfl rfl rfl ?_
                  exact zeRe rfl rfl rfl rfl (by simp only [yl_num, h1, h6, h11, h12, h13, h14, h15, cond_true, cond_false] <;> rfl) (by simp only [yl_num, h1, h6, h11, h12, h13, h14, h15, cond_true, cond_false] <;> rfl)
                · refine zeKn (c := 1) rfl rfl rfl ?_
                  refine zeP rfl rfl ?_
                  refine zeP rfl rfl ?_
                  refine zeP rfl rfl ?_
                  refine zeF1 rfl rfl (show zc1 .eq (Int32.ofNat 1) = false by decide) ?_
                  refine zeP rfl rfl ?_
                  refine zeP rfl rfl ?_
                  exact zeRe rfl rfl rfl rfl (by simp only [yl_num, h1, h6, h11, h12, h13, h14, h15, cond_true, cond_false] <;> rfl) (by simp only [yl_num, h1, h6, h11, h12, h13, h14, h15, cond_true, cond_false] <;> rfl)
        · refine zeP rfl rfl ?_
          refine zeXp rfl rfl ?_
          refine zeP rfl rfl ?_
          refine zeXb rfl rfl ?_
          refine zeSub rfl hbp ?_
          refine zeKn (c := 4) rfl rfl rfl ?_
          refine zeB2 rfl rfl (fun h16 => ?_) (fun h16 => ?_)
          · refine zeP rfl rfl ?_
            refine zeP rfl rfl ?_
            refine zeXp rfl rfl ?_
            refine zeKn (c := 1) rfl rfl rfl ?_
            refine zeAdd rfl ?_
            refine zeXpS rfl rfl ?_
            refine zeP rfl rfl ?_
            simp only [yl_num, h1, h6, h11, h16, cond_true, cond_false]
            exact ih (v) ((p + 1)) (by omega) (by have := tge_f (a := p) (b := e) (by omega) (by have := hG.2.2; omega) (by assumption); have := hG.2.2; omega) (by omega)
          · refine zeP rfl rfl ?_
            refine zeKn (c := 10) rfl rfl rfl ?_
            refine zeP rfl rfl ?_
            refine zeP rfl rfl ?_
            refine zeGR rfl rfl zS128 rfl rfl ?_
            refine zeP rfl rfl ?_
            refine zeXp rfl rfl ?_
            refine zeXB (k := p) hG rfl (by have := tge_f (a := p) (b := e) (by omega) (by have := hG.2.2; omega) (by assumption); have := hG.2.2; omega) ?_
            refine zeKn (c := 48) rfl rfl rfl ?_
            refine zeP rfl rfl ?_
            refine zeP rfl rfl ?_
            refine zeP rfl rfl ?_
            refine zeP rfl rfl ?_
            refine zeP rfl rfl ?_
            refine zeXp rfl rfl ?_
            refine zeKn (c := 1) rfl rfl rfl ?_
            refine zeAdd rfl ?_
            refine zeXpS rfl rfl ?_
            refine zeP rfl rfl ?_
            simp only [yl_num, h1, h6, h11, h16, cond_true, cond_false]
            exact ih (((v * (Int32.ofNat 10)) + ((T p) - (Int32.ofNat 48)))) ((p + 1)) (by omega) (by have := tge_f (a := p) (b := e) (by omega) (by have := hG.2.2; omega) (by assumption); have := hG.2.2; omega) (by omega)
def y_readNumber (T : (Nat → Int32)) (e : Nat) (p : Nat) (lo : Int32) (hi : Int32) : Int32 × Nat × Nat := ((yl_num T e ((lkB T e p)) lo hi ((e - lkB T e p)) ((Int32.ofNat 0)) ((lkB T e p))).1, (yl_num T e ((lkB T e p)) lo hi ((e - lkB T e p)) ((Int32.ofNat 0)) ((lkB T e p))).2, (lkB T e p))
theorem yp_readNumber {σ : Nat → Nat × (Nat → Int32)} {yy : (Nat → Nat → Int64) × Bool × Nat × Nat} {m : Nat → Nat → Int32} {p b : Nat} {T : Nat → Int32} {e : Nat} {lo : Int32} {hi : Int32} {d : Nat} (hd : 2 ≤ d + 1) (hG : XR m T e) (hp : p ≤ e) : zEv σ (d + 1) 1012 0 [some (.ref 128), some (.int lo), some (.int hi), none, none, none] [] (zS1, XP m p b, yy) (.inl (some (.int (y_readNumber T e p lo hi).1))) (zS1, XP m ((y_readNumber T e p lo hi).2.1) ((y_readNumber T e p lo hi).2.2), yy) := by
  refine zeP rfl rfl ?_
  refine zeCV rfl rfl rfl rfl zS128 rfl (yc_look (m := m) (p := p) (b := b) (T := T) (e := e) hG hp) (by omega) ?_
  dsimp only [Option.toList, List.cons_append, List.nil_append]
  refine zeKn (c := 0) rfl rfl rfl ?_
  refine zeP rfl rfl ?_
  simp only [y_readNumber, cond_true, cond_false]
  exact yw_num (lo := lo) (hi := hi) (T := T) (e := e) (m := m) (b := (lkB T e p)) (by omega) hG ((e - lkB T e p)) ((Int32.ofNat 0)) ((lkB T e p)) (by omega) (by have := (lkB_le (T := T) hG.2.2 hp).2; have := hG.2.2; omega) (Nat.le_refl _)
theorem yc_readNumber {σ : Nat → Nat × (Nat → Int32)} {yy : (Nat → Nat → Int64) × Bool × Nat × Nat} {m : Nat → Nat → Int32} {p b : Nat} {T : Nat → Int32} {e : Nat} {lo : Int32} {hi : Int32} (hG : XR m T e) (hp : p ≤ e) : zF σ 2 1012 [.ref 128, .int lo, .int hi] (zS1, XP m p b, yy) (.inl (some (.int (y_readNumber T e p lo hi).1))) (zS1, XP m ((y_readNumber T e p lo hi).2.1) ((y_readNumber T e p lo hi).2.2), yy) := by
  intro d hd
  obtain ⟨d, rfl⟩ : ∃ k, d = k + 1 := ⟨d - 1, by omega⟩
  exact yp_readNumber hd hG hp
