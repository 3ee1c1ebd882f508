def q_isAt (m : Nat → Nat → Int32) (p : Nat) (lo : Int32) (hi : Int32) : Int32 := (bif zc2 .ge (Int32.ofNat p) (Int32.ofNat (pe m)) then (Int32.ofNat 0) else (bif zc2 .lt (m 141 p) lo then (Int32.ofNat 0) else (bif zc2 .gt (m 141 p) hi then (Int32.ofNat 0) else (Int32.ofNat 1))))
theorem p_isAt {σ : Nat → Nat × (Nat → Int32)} {yy : (Nat → Nat → Int64) × Bool × Nat × Nat} {m : Nat → Nat → Int32} {W : Nat → Int32} {p b : Nat} {lo : Int32} {hi : Int32} {d : Nat} (hd : 1 ≤ d + 1) (hG : PG m) (hp : p ≤ 400) : zEv σ (d + 1) 1844 0 [some (.ref 137), some (.int lo), some (.int hi)] [] (zS1, zrow (TP m p b) 138 W, yy) (.inl (some (.int (q_isAt m p lo hi)))) (zS1, zrow (TP m p b) 138 W, yy) := by
  refine zeP rfl rfl ?_
  refine zeTp rfl rfl ?_
  refine zeP rfl rfl ?_
  refine zeTe hG.1 rfl rfl ?_
  refine zeB2 rfl rfl (fun h1 => ?_) (fun h1 => ?_)
  · refine zeKn (c := 0) rfl rfl rfl ?_
    exact zeRe rfl rfl rfl rfl (by simp only [q_isAt, h1, cond_true, cond_false] <;> rfl) (by simp only [q_isAt, h1, cond_true, cond_false] <;> rfl)
  · refine zeP rfl rfl ?_
    refine zeGR rfl rfl zS137 rfl rfl ?_
    refine zeP rfl rfl ?_
    refine zeTp rfl rfl ?_
    refine zeTB (k := p) rfl (by have := tge_f (by omega) (by have := hG.2; omega) h1; have := hG.2; omega) ?_
    refine zeP rfl rfl ?_
    refine zeB2 rfl rfl (fun h2 => ?_) (fun h2 => ?_)
    · refine zeKn (c := 0) rfl rfl rfl ?_
      exact zeRe rfl rfl rfl rfl (by simp only [q_isAt, h1, h2, cond_true, cond_false] <;> rfl) (by simp only [q_isAt, h1, h2, cond_true, cond_false] <;> rfl)
    · refine zeP rfl rfl ?_
      refine zeGR rfl rfl zS137 rfl rfl ?_
      refine zeP rfl rfl ?_
      refine zeTp rfl rfl ?_
      refine zeTB (k := p) rfl (by have := tge_f (by omega) (by have := hG.2; omega) h1; have := hG.2; omega) ?_
      refine zeP rfl rfl ?_
      refine zeB2 rfl rfl (fun h3 => ?_) (fun h3 => ?_)
      · refine zeKn (c := 0) rfl rfl rfl ?_
        exact zeRe rfl rfl rfl rfl (by simp only [q_isAt, h1, h2, h3, cond_true, cond_false] <;> rfl) (by simp only [q_isAt, h1, h2, h3, cond_true, cond_false] <;> rfl)
      · refine zeKn (c := 1) rfl rfl rfl ?_
        refine zeP rfl rfl ?_
        exact zeRe rfl rfl rfl rfl (by simp only [q_isAt, h1, h2, h3, cond_true, cond_false] <;> rfl) (by simp only [q_isAt, h1, h2, h3, cond_true, cond_false] <;> rfl)
theorem c_isAt {σ : Nat → Nat × (Nat → Int32)} {yy : (Nat → Nat → Int64) × Bool × Nat × Nat} {m : Nat → Nat → Int32} {W : Nat → Int32} {p b : Nat} {lo : Int32} {hi : Int32} (hG : PG m) (hp : p ≤ 400) : zF σ 1 1844 [.ref 137, .int lo, .int hi] (zS1, zrow (TP m p b) 138 W, yy) (.inl (some (.int (q_isAt m p lo hi)))) (zS1, zrow (TP m p b) 138 W, yy) := by
  intro d hd
  obtain ⟨d, rfl⟩ : ∃ k, d = k + 1 := ⟨d - 1, by omega⟩
  exact p_isAt hd hG hp
theorem isAt_out {m : Nat → Nat → Int32} {p : Nat} {lo hi : Int32} (hG : PG m) (hp : p ≤ 400) (h : pe m ≤ p) : q_isAt m p lo hi = Int32.ofNat 0 := by
  unfold q_isAt
  have := hG.2
  rw [zcge (by omega) (by omega) h, cond_true]
theorem isAt_in {m : Nat → Nat → Int32} {p : Nat} {lo hi : Int32} (hG : PG m) (hp : p ≤ 400) (h : zc1 .eq (q_isAt m p lo hi) = false) : p < pe m := by
  apply Nat.lt_of_not_le
  intro hle
  rw [isAt_out hG hp hle] at h
  cases h
theorem isAt_o1 {m : Nat → Nat → Int32} {p : Nat} {lo hi : Int32} (hG : PG m) (hp : p ≤ 400) (h : pe m ≤ p) : zc1 .eq (q_isAt m p lo hi) = true := by
  rw [isAt_out hG hp h]; rfl
def l_blanks (m : Nat → Nat → Int32) : Nat → Nat → Nat × Nat
  | 0, p => (p, p)
  | n + 1, p => (bif zc1 .eq (q_isAt m p ((Int32.ofNat 32)) ((Int32.ofNat 32))) then (p, p) else (l_blanks m n ((p + 1))))
theorem w_blanks {σ : Nat → Nat × (Nat → Int32)} {yy : (Nat → Nat → Int64) × Bool × Nat × Nat} {m : Nat → Nat → Int32} {W : (Nat → Int32)} {b : Nat} {d : Nat} (hd : 2 ≤ d + 1) (hG : PG m) : ∀ (n : Nat) (p : Nat), pe m ≤ p + n → p ≤ 400 → zEv σ (d + 1) 1845 0 [some (.ref 137)] [] (zS1, zrow (TP m p b) 138 W, yy) (.inl none) (zS1, zrow (TP m ((l_blanks m n p).1) ((l_blanks m n p).2)) 138 W, yy) := by
  intro n
  induction n with
  | zero =>
    intro p hk hp
    refine zeP rfl rfl ?_
    refine zeKn (c := 32) rfl rfl rfl ?_
    refine zeKn (c := 32) rfl rfl rfl ?_
    refine zeCF rfl rfl rfl rfl rfl rfl (c_isAt (lo := (Int32.ofNat 32)) (hi := (Int32.ofNat 32)) (m := m) (W := W) (p := p) (b := b) (by first | assumption | omega) (by first | assumption | omega)) (by omega) ?_
    dsimp only [Option.toList, List.cons_append, List.nil_append]
    refine zeT1 rfl rfl (isAt_o1 hG hp (by omega)) ?_
    refine zeP rfl rfl ?_
    refine zeP rfl rfl ?_
    refine zeTp rfl rfl ?_
    refine zeTbS rfl rfl ?_
    exact zeRe rfl rfl rfl rfl (by rfl) (by rfl)
  | succ n ih =>
    intro p hk hp
    refine zeP rfl rfl ?_
    refine zeKn (c := 32) rfl rfl rfl ?_
    refine zeKn (c := 32) rfl rfl rfl ?_
    refine zeCF rfl rfl rfl rfl rfl rfl (c_isAt (lo := (Int32.ofNat 32)) (hi := (Int32.ofNat 32)) (m := m) (W := W) (p := p) (b := b) (by first | assumption | omega) (by first | assumption | omega)) (by omega) ?_
    dsimp only [Option.toList, List.cons_append, List.nil_append]
    refine zeB1 rfl rfl (fun h1 => ?_) (fun h1 => ?_)
    · refine zeP rfl rfl ?_
      refine zeP rfl rfl ?_
      refine zeTp rfl rfl ?_
      refine zeTbS rfl rfl ?_
      exact zeRe rfl rfl rfl rfl (by simp only [l_blanks, h1, cond_true, cond_false] <;> rfl) (by simp only [l_blanks, h1, cond_true, cond_false] <;> rfl)
    · refine zeP rfl rfl ?_
      refine zeP rfl rfl ?_
      refine zeTp rfl rfl ?_
      refine zeKn (c := 1) rfl rfl rfl ?_
      refine zeAdd rfl ?_
      refine zeTpS rfl rfl ?_
      refine zeP rfl rfl ?_
      simp only [l_blanks, h1, cond_true, cond_false]
      exact ih  ((p + 1)) (by omega) (by have := isAt_in hG hp h1; have := hG.2; omega)
def skB (m : Nat → Nat → Int32) (p : Nat) : Nat := (l_blanks m (pe m - p) p).1
theorem l_blanks_b (m : Nat → Nat → Int32) : ∀ n p, (l_blanks m n p).2 = (l_blanks m n p).1 := by
  intro n
  induction n with
  | zero => intro p; rfl
  | succ n ih =>
    intro p
    unfold l_blanks
    cases zc1 .eq (q_isAt m p (Int32.ofNat 32) (Int32.ofNat 32)) with
    | true => rfl
    | false => exact ih (p + 1)
theorem l_blanks_le {m : Nat → Nat → Int32} (hG : PG m) : ∀ n p, p ≤ pe m → p ≤ (l_blanks m n p).1 ∧ (l_blanks m n p).1 ≤ pe m := by
  intro n
  induction n with
  | zero => intro p h; exact ⟨Nat.le_refl _, h⟩
  | succ n ih =>
    intro p h
    have := hG.2
    unfold l_blanks
    cases h1 : zc1 .eq (q_isAt m p (Int32.ofNat 32) (Int32.ofNat 32)) with
    | true => exact ⟨Nat.le_refl _, h⟩
    | false =>
      have := isAt_in hG (by omega) h1
      have := ih (p + 1) (by omega)
      show p ≤ (l_blanks m n (p + 1)).1 ∧ _
      exact ⟨by omega, this.2⟩
theorem skB_le {m : Nat → Nat → Int32} {p : Nat} (hG : PG m) (h : p ≤ pe m) : p ≤ skB m p ∧ skB m p ≤ pe m := l_blanks_le hG _ p h
theorem c_blanks {σ : Nat → Nat × (Nat → Int32)} {yy : (Nat → Nat → Int64) × Bool × Nat × Nat} {m : Nat → Nat → Int32} {W : Nat → Int32} {p b : Nat} (hG : PG m) (hp : p ≤ pe m) : zF σ 2 1845 [.ref 137] (zS1, zrow (TP m p b) 138 W, yy) (.inl none) (zS1, zrow (TP m (skB m p) (skB m p)) 138 W, yy) := by
  intro d hd
  obtain ⟨d, rfl⟩ : ∃ k, d = k + 1 := ⟨d - 1, by omega⟩
  have h := w_blanks (σ := σ) (yy := yy) (m := m) (W := W) (b := b) hd hG (pe m - p) p (by omega) (by have := hG.2; omega)
  rw [l_blanks_b] at h
  exact h
def l_letters (m : Nat → Nat → Int32) : Nat → Nat → Nat
  | 0, p => p
  | n + 1, p => (bif zc1 .eq (q_isAt m p ((Int32.ofNat 97)) ((Int32.ofNat 122))) then p else (l_letters m n ((p + 1))))
theorem w_letters {σ : Nat → Nat × (Nat → Int32)} {yy : (Nat → Nat → Int64) × Bool × Nat × Nat} {m : Nat → Nat → Int32} {W : (Nat → Int32)} {b : Nat} {d : Nat} (hd : 2 ≤ d + 1) (hG : PG m) : ∀ (n : Nat) (p : Nat), pe m ≤ p + n → p ≤ 400 → zEv σ (d + 1) 1846 4 [some (.ref 137)] [] (zS1, zrow (TP m p b) 138 W, yy) (.inl none) (zS1, zrow (TP m ((l_letters m n p)) b) 138 W, yy) := by
  intro n
  induction n with
  | zero =>
    intro p hk hp
    refine zeP rfl rfl ?_
    refine zeKn (c := 97) rfl rfl rfl ?_
    refine zeKn (c := 122) rfl rfl rfl ?_
    refine zeCF rfl rfl rfl rfl rfl rfl (c_isAt (lo := (Int32.ofNat 97)) (hi := (Int32.ofNat 122)) (m := m) (W := W) (p := p) (b := b) (by first | assumption | omega) (by first | assumption | omega)) (by omega) ?_
    dsimp only [Option.toList, List.cons_append, List.nil_append]
    refine zeT1 rfl rfl (isAt_o1 hG hp (by omega)) ?_
    exact zeRe rfl rfl rfl rfl (by rfl) (by rfl)
  | succ n ih =>
    intro p hk hp
    refine zeP rfl rfl ?_
    refine zeKn (c := 97) rfl rfl rfl ?_
    refine zeKn (c := 122) rfl rfl rfl ?_
    refine zeCF rfl rfl rfl rfl rfl rfl (c_isAt (lo := (Int32.ofNat 97)) (hi := (Int32.ofNat 122)) (m := m) (W := W) (p := p) (b := b) (by first | assumption | omega) (by first | assumption | omega)) (by omega) ?_
    dsimp only [Option.toList, List.cons_append, List.nil_append]
    refine zeB1 rfl rfl (fun h1 => ?_) (fun h1 => ?_)
    · exact zeRe rfl rfl rfl rfl (by simp only [l_letters, h1, cond_true, cond_false] <;> rfl) (by simp only [l_letters, h1, cond_true, cond_false] <;> rfl)
    · refine zeP rfl rfl ?_
      refine zeP rfl rfl ?_
      refine zeTp rfl rfl ?_
      refine zeKn (c := 1) rfl rfl rfl ?_
      refine zeAdd rfl ?_
      refine zeTpS rfl rfl ?_
      refine zeP rfl rfl ?_
      simp only [l_letters, h1, cond_true, cond_false]
      exact ih  ((p + 1)) (by omega) (by have := isAt_in hG hp h1; have := hG.2; omega)
theorem l_letters_le {m : Nat → Nat → Int32} (hG : PG m) : ∀ n p, p ≤ pe m → p ≤ l_letters m n p ∧ l_letters m n p ≤ pe m := by
  intro n
  induction n with
  | zero => intro p h; exact ⟨Nat.le_refl _, h⟩
  | succ n ih =>
    intro p h
    have := hG.2
    unfold l_letters
    cases h1 : zc1 .eq (q_isAt m p (Int32.ofNat 97) (Int32.ofNat 122)) with
    | true => exact ⟨Nat.le_refl _, h⟩
    | false =>
      have := isAt_in hG (by omega) h1
      have := ih (p + 1) (by omega)
      show p ≤ l_letters m n (p + 1) ∧ _
      exact ⟨by omega, this.2⟩
def skL (m : Nat → Nat → Int32) (p : Nat) : Nat := l_letters m (pe m - skB m p) (skB m p)
theorem skL_le {m : Nat → Nat → Int32} {p : Nat} (hG : PG m) (h : p ≤ pe m) : skB m p ≤ skL m p ∧ skL m p ≤ pe m := l_letters_le hG _ _ (skB_le hG h).2
def q_letters (m : Nat → Nat → Int32) (p : Nat) : Nat × Nat := ((l_letters m ((pe m - skB m p)) ((skB m p))), (skB m p))
theorem p_letters {σ : Nat → Nat × (Nat → Int32)} {yy : (Nat → Nat → Int64) × Bool × Nat × Nat} {m : Nat → Nat → Int32} {W : Nat → Int32} {p b : Nat} {d : Nat} (hd : 3 ≤ d + 1) (hG : PG m) (hp : p ≤ pe m) : zEv σ (d + 1) 1846 0 [some (.ref 137)] [] (zS1, zrow (TP m p b) 138 W, yy) (.inl none) (zS1, zrow (TP m ((q_letters m p).1) ((q_letters m p).2)) 138 W, yy) := by
  refine zeP rfl rfl ?_
  refine zeCF rfl rfl rfl rfl rfl rfl (c_blanks (m := m) (W := W) (p := p) (b := b)  hG hp) (by omega) ?_
  dsimp only [Option.toList, List.cons_append, List.nil_append]
  simp only [q_letters, cond_true, cond_false]
  exact w_letters  (m := m) (W := W) (b := (skB m p)) (by omega) hG ((pe m - skB m p))  ((skB m p)) (by omega) (by have := (skB_le hG hp).2; have := hG.2; omega)
theorem c_letters {σ : Nat → Nat × (Nat → Int32)} {yy : (Nat → Nat → Int64) × Bool × Nat × Nat} {m : Nat → Nat → Int32} {W : Nat → Int32} {p b : Nat} (hG : PG m) (hp : p ≤ pe m) : zF σ 3 1846 [.ref 137] (zS1, zrow (TP m p b) 138 W, yy) (.inl none) (zS1, zrow (TP m ((q_letters m p).1) ((q_letters m p).2)) 138 W, yy) := by
  intro d hd
  obtain ⟨d, rfl⟩ : ∃ k, d = k + 1 := ⟨d - 1, by omega⟩
  exact p_letters hd hG hp
def l_isWord (m : Nat → Nat → Int32) (b : Nat) (s : Nat) : Nat → Int32 → Nat → Int32
  | 0, is, k => (bif zc1 .eq is then is else is)
  | n + 1, is, k => (bif zc1 .eq is then is else (bif zc2 .ne (m 141 ((b + k))) ((zby s).getD k 0) then (l_isWord m b s n ((Int32.ofNat 0)) ((k + 1))) else (l_isWord m b s n ((Int32.ofNat 1)) ((k + 1)))))
theorem w_isWord {σ : Nat → Nat × (Nat → Int32)} {yy : (Nat → Nat → Int64) × Bool × Nat × Nat} {m : Nat → Nat → Int32} {W : (Nat → Int32)} {p : Nat} {b : Nat} {s : Nat} {d : Nat} (hd : 1 ≤ d + 1) (hG : PG m) (hs : s < 37) (hb : b + (zby s).length ≤ 400) : ∀ (n : Nat) (is : Int32) (k : Nat), k + n = (zby s).length → is = 0 ∨ is = 1 → zEv σ (d + 1) 1847 24 [some (.ref 137), some (.ref (1100 + s)), some (.int is), some (.int (Int32.ofNat k))] [] (zS1, zrow (TP m p b) 138 W, yy) (.inl (some (.int (l_isWord m b s n is k)))) (zS1, zrow (TP m p b) 138 W, yy) := by
  intro n
  induction n with
  | zero =>
    intro is k hk his
    refine zeP rfl rfl ?_
    refine zeB1 rfl rfl (fun h1 => ?_) (fun h1 => ?_)
    · refine zeP rfl rfl ?_
      exact zeRe rfl rfl rfl (zretB rfl rfl his) (by simp only [l_isWord, h1, cond_true, cond_false] <;> rfl) (by simp only [l_isWord, h1, cond_true, cond_false] <;> rfl)
    · refine zeP rfl rfl ?_
      refine zeP rfl rfl ?_
      refine zeLn hs rfl rfl rfl rfl rfl ?_
      refine zeT2 rfl rfl (zcge (by have := zby_len s hs; omega) (by have := zby_len s hs; omega) (by omega)) ?_
      refine zeP rfl rfl ?_
      exact zeRe rfl rfl rfl (zretB rfl rfl his) (by simp only [l_isWord, h1, cond_true, cond_false] <;> rfl) (by simp only [l_isWord, h1, cond_true, cond_false] <;> rfl)
  | succ n ih =>
    intro is k hk his
    refine zeP rfl rfl ?_
    refine zeB1 rfl rfl (fun h1 => ?_) (fun h1 => ?_)
    · refine zeP rfl rfl ?_
      exact zeRe rfl rfl rfl (zretB rfl rfl his) (by simp only [l_isWord, h1, cond_true, cond_false] <;> rfl) (by simp only [l_isWord, h1, cond_true, cond_false] <;> rfl)
    · refine zeP rfl rfl ?_
      refine zeP rfl rfl ?_
      refine zeLn hs rfl rfl rfl rfl rfl ?_
      refine zeF2 rfl rfl (zcge_f (by have := zby_len s hs; omega) (by have := zby_len s hs; omega) (by omega)) ?_
      refine zeP rfl rfl ?_
      refine zeGR rfl rfl zS137 rfl rfl ?_
      refine zeP rfl rfl ?_
      refine zeTb rfl rfl ?_
      refine zeP rfl rfl ?_
      refine zeAdd rfl ?_
      refine zeTB (k := (b + k)) rfl (by omega) ?_
      refine zeP rfl rfl ?_
      refine zeP rfl rfl ?_
      refine zeCh hs (by omega) rfl rfl rfl rfl rfl ?_
      refine zeB2 rfl rfl (fun h2 => ?_) (fun h2 => ?_)
      · refine zeKn (c := 0) rfl rfl rfl ?_
        refine zeP rfl rfl ?_
        refine zeInc rfl rfl ?_
        refine zeP rfl rfl ?_
        simp only [l_isWord, h1, h2, cond_true, cond_false]
        exact ih ((Int32.ofNat 0)) ((k + 1))  (by omega) (by first | exact Or.inr rfl | exact Or.inl rfl)
      · refine zeKn (c := 1) rfl rfl rfl ?_
        refine zeP rfl rfl ?_
        refine zeP rfl rfl ?_
        refine zeInc rfl rfl ?_
        refine zeP rfl rfl ?_
        simp only [l_isWord, h1, h2, cond_true, cond_false]
        exact ih ((Int32.ofNat 1)) ((k + 1))  (by omega) (by first | exact Or.inr rfl | exact Or.inl rfl)
theorem tne_f {a b : Nat} (ha : a ≤ 100000) (hb : b ≤ 100000) (h : zc2 .ne (Int32.ofNat a) (Int32.ofNat b) = false) : a = b := by
  have h1 := of_decide_eq_false h
  have h2 : Int32.ofNat a = Int32.ofNat b := Classical.not_not.mp h1
  have h3 := congrArg Int32.toInt h2
  rw [zoN (by omega), zoN (by omega)] at h3
  omega
theorem isw_b {s p b : Nat} (hs : s < 37) (hp : p ≤ 400) (hbp : b ≤ p) (h : zc2 .ne (Int32.ofNat (p - b)) (Int32.ofNat (zby s).length) = false) : b + (zby s).length ≤ 400 := by
  have := zby_len s hs
  have := tne_f (by omega) (by omega) h
  omega
def q_isWord (m : Nat → Nat → Int32) (p : Nat) (b : Nat) (s : Nat) : Int32 := (bif zc2 .ne (Int32.ofNat (p - b)) (Int32.ofNat (zby s).length) then (Int32.ofNat 0) else (l_isWord m b s ((zby s).length) ((Int32.ofNat 1)) 0))
theorem p_isWord {σ : Nat → Nat × (Nat → Int32)} {yy : (Nat → Nat → Int64) × Bool × Nat × Nat} {m : Nat → Nat → Int32} {W : Nat → Int32} {p b : Nat} {s : Nat} {d : Nat} (hd : 1 ≤ d + 1) (hG : PG m) (hs : s < 37) (hbp : b ≤ p) (hp : p ≤ 400) : zEv σ (d + 1) 1847 0 [some (.ref 137), some (.ref (1100 + s)), none, none] [] (zS1, zrow (TP m p b) 138 W, yy) (.inl (some (.int (q_isWord m p b s)))) (zS1, zrow (TP m p b) 138 W, yy) := by
  refine zeP rfl rfl ?_
  refine zeTp rfl rfl ?_
  refine zeP rfl rfl ?_
  refine zeTb rfl rfl ?_
  refine zeSub rfl hbp ?_
  refine zeP rfl rfl ?_
  refine zeLn hs rfl rfl rfl rfl rfl ?_
  refine zeB2 rfl rfl (fun h1 => ?_) (fun h1 => ?_)
  · refine zeKn (c := 0) rfl rfl rfl ?_
    refine zeP rfl rfl ?_
    refine zeKn (c := 0) rfl rfl rfl ?_
    refine zeP rfl rfl ?_
    refine zeP rfl rfl ?_
    refine zeT1 rfl rfl (show zc1 .eq (Int32.ofNat 0) = true by decide) ?_
    refine zeP rfl rfl ?_
    exact zeRe rfl rfl rfl (zretB rfl rfl (Or.inl rfl)) (by simp only [q_isWord, h1, cond_true, cond_false] <;> rfl) (by simp only [q_isWord, h1, cond_true, cond_false] <;> rfl)
  · refine zeKn (c := 1) rfl rfl rfl ?_
    refine zeP rfl rfl ?_
    refine zeP rfl rfl ?_
    refine zeKn (c := 0) rfl rfl rfl ?_
    refine zeP rfl rfl ?_
    simp only [q_isWord, h1, cond_true, cond_false]
    exact w_isWord (s := s) (m := m) (W := W) (p := p) (b := b) (by omega) hG hs (isw_b hs hp hbp h1) ((zby s).length) ((Int32.ofNat 1)) (0)  (by omega) (Or.inr rfl)
theorem c_isWord {σ : Nat → Nat × (Nat → Int32)} {yy : (Nat → Nat → Int64) × Bool × Nat × Nat} {m : Nat → Nat → Int32} {W : Nat → Int32} {p b : Nat} {s : Nat} (hG : PG m) (hs : s < 37) (hbp : b ≤ p) (hp : p ≤ 400) : zF σ 1 1847 [.ref 137, .ref (1100 + s)] (zS1, zrow (TP m p b) 138 W, yy) (.inl (some (.int (q_isWord m p b s)))) (zS1, zrow (TP m p b) 138 W, yy) := by
  intro d hd
  obtain ⟨d, rfl⟩ : ∃ k, d = k + 1 := ⟨d - 1, by omega⟩
  exact p_isWord hd hG hs hbp hp
def q_passesSign (m : Nat → Nat → Int32) (p : Nat) (c : Nat) : Int32 × Nat × Nat := (bif zc1 .ne (q_isAt m ((skB m p)) ((Int32.ofNat c)) ((Int32.ofNat c))) then ((Int32.ofNat 1), ((skB m p) + 1), (skB m p)) else ((Int32.ofNat 0), (skB m p), (skB m p)))
theorem p_passesSign {σ : Nat → Nat × (Nat → Int32)} {yy : (Nat → Nat → Int64) × Bool × Nat × Nat} {m : Nat → Nat → Int32} {W : Nat → Int32} {p b : Nat} {c : Nat} {d : Nat} (hd : 3 ≤ d + 1) (hG : PG m) (hp : p ≤ pe m) : zEv σ (d + 1) 1848 0 [some (.ref 137), some (.int (Int32.ofNat c))] [] (zS1, zrow (TP m p b) 138 W, yy) (.inl (some (.int (q_passesSign m p c).1))) (zS1, zrow (TP m ((q_passesSign m p c).2.1) ((q_passesSign m p c).2.2)) 138 W, yy) := by
  refine zeP rfl rfl ?_
  refine zeCF rfl rfl rfl rfl rfl rfl (c_blanks (m := m) (W := W) (p := p) (b := b)  hG hp) (by omega) ?_
  dsimp only [Option.toList, List.cons_append, List.nil_append]
  refine zeP rfl rfl ?_
  refine zeP rfl rfl ?_
  refine zeP rfl rfl ?_
  refine zeCF rfl rfl rfl rfl rfl rfl (c_isAt (lo := (Int32.ofNat c)) (hi := (Int32.ofNat c)) (m := m) (W := W) (p := (skB m p)) (b := (skB m p)) hG (by have := (skB_le hG hp).2; have := hG.2; omega)) (by omega) ?_
  dsimp only [Option.toList, List.cons_append, List.nil_append]
  refine zeB1 rfl rfl (fun h1 => ?_) (fun h1 => ?_)
  · refine zeP rfl rfl ?_
    refine zeP rfl rfl ?_
    refine zeTp rfl rfl ?_
    refine zeKn (c := 1) rfl rfl rfl ?_
    refine zeAdd rfl ?_
    refine zeTpS rfl rfl ?_
    refine zeKn (c := 1) rfl rfl rfl ?_
    exact zeRe rfl rfl rfl rfl (by simp only [q_passesSign, h1, cond_true, cond_false] <;> rfl) (by simp only [q_passesSign, h1, cond_true, cond_false] <;> rfl)
  · refine zeKn (c := 0) rfl rfl rfl ?_
    exact zeRe rfl rfl rfl rfl (by simp only [q_passesSign, h1, cond_true, cond_false] <;> rfl) (by simp only [q_passesSign, h1, cond_true, cond_false] <;> rfl)
theorem c_passesSign {σ : Nat → Nat × (Nat → Int32)} {yy : (Nat → Nat → Int64) × Bool × Nat × Nat} {m : Nat → Nat → Int32} {W : Nat → Int32} {p b : Nat} {c : Nat} (hG : PG m) (hp : p ≤ pe m) : zF σ 3 1848 [.ref 137, .int (Int32.ofNat c)] (zS1, zrow (TP m p b) 138 W, yy) (.inl (some (.int (q_passesSign m p c).1))) (zS1, zrow (TP m ((q_passesSign m p c).2.1) ((q_passesSign m p c).2.2)) 138 W, yy) := by
  intro d hd
  obtain ⟨d, rfl⟩ : ∃ k, d = k + 1 := ⟨d - 1, by omega⟩
  exact p_passesSign hd hG hp
def l_number (m : Nat → Nat → Int32) (b : Nat) (lo : Int32) (hi : Int32) : Nat → Int32 → Nat → Int32 × Nat
  | 0, v, p => (bif zc2 .eq (Int32.ofNat p) (Int32.ofNat b) then ((-1), p) else (bif zc2 .gt (Int32.ofNat (p - b)) (Int32.ofNat 4) then ((-1), p) else (bif zc2 .lt v lo then ((-1), p) else (bif zc2 .le v hi then (v, p) else ((-1), p)))))
  | n + 1, v, p => (bif zc1 .eq (q_isAt m p ((Int32.ofNat 48)) ((Int32.ofNat 57))) then (bif zc2 .eq (Int32.ofNat p) (Int32.ofNat b) then ((-1), p) else (bif zc2 .gt (Int32.ofNat (p - b)) (Int32.ofNat 4) then ((-1), p) else (bif zc2 .lt v lo then ((-1), p) else (bif zc2 .le v hi then (v, p) else ((-1), p))))) else (bif zc2 .ge (Int32.ofNat (p - b)) (Int32.ofNat 4) then (l_number m b lo hi n v ((p + 1))) else (l_number m b lo hi n (((((Int32.ofNat 10) * v) + (m 141 p)) - (Int32.ofNat 48))) ((p + 1)))))
theorem w_number {σ : Nat → Nat × (Nat → Int32)} {yy : (Nat → Nat → Int64) × Bool × Nat × Nat} {m : Nat → Nat → Int32} {W : (Nat → Int32)} {b : Nat} {lo : Int32} {hi : Int32} {d : Nat} (hd : 2 ≤ d + 1) (hG : PG m) : ∀ (n : Nat) (v : Int32) (p : Nat), pe m ≤ p + n → p ≤ 400 → b ≤ p → zEv σ (d + 1) 1849 6 [some (.ref 137), some (.int lo), some (.int hi), some (.int v)] [] (zS1, zrow (TP m p b) 138 W, yy) (.inl (some (.int (l_number m b lo hi n v p).1))) (zS1, zrow (TP m ((l_number m b lo hi n v p).2) b) 138 W, yy) := by
  intro n
  induction n with
  | zero =>
    intro v p hk hp hbp
    refine zeP rfl rfl ?_
    refine zeKn (c := 48) rfl rfl rfl ?_
    refine zeKn (c := 57) rfl rfl rfl ?_
    refine zeCF rfl rfl rfl rfl rfl rfl (c_isAt (lo := (Int32.ofNat 48)) (hi := (Int32.ofNat 57)) (m := m) (W := W) (p := p) (b := b) (by first | assumption | omega) (by first | assumption | omega)) (by omega) ?_
    dsimp only [Option.toList, List.cons_append, List.nil_append]
    refine zeT1 rfl rfl (isAt_o1 hG hp (by omega)) ?_
    refine zeP rfl rfl ?_
    refine zeTp rfl rfl ?_
    refine zeP rfl rfl ?_
    refine zeTb rfl rfl ?_
    refine zeB2 rfl rfl (fun h1 => ?_) (fun h1 => ?_)
    · refine zeK (v := -1) rfl rfl rfl ?_
      refine zeP rfl rfl ?_
      exact zeRe rfl rfl rfl rfl (by simp only [l_number, h1, cond_true, cond_false] <;> rfl) (by simp only [l_number, h1, cond_true, cond_false] <;> rfl)
    · refine zeP rfl rfl ?_
      refine zeTp rfl rfl ?_
      refine zeP rfl rfl ?_
      refine zeTb rfl rfl ?_
      refine zeSub rfl hbp ?_
      refine zeKn (c := 4) rfl rfl rfl ?_
      refine zeB2 rfl rfl (fun h2 => ?_) (fun h2 => ?_)
      · refine zeK (v := -1) rfl rfl rfl ?_
        refine zeP rfl rfl ?_
        exact zeRe rfl rfl rfl rfl (by simp only [l_number, h1, h2, cond_true, cond_false] <;> rfl) (by simp only [l_number, h1, h2, cond_true, cond_false] <;> rfl)
      · refine zeP rfl rfl ?_
        refine zeP rfl rfl ?_
        refine zeB2 rfl rfl (fun h3 => ?_) (fun h3 => ?_)
        · refine zeK (v := -1) rfl rfl rfl ?_
          refine zeP rfl rfl ?_
          exact zeRe rfl rfl rfl rfl (by simp only [l_number, h1, h2, h3, cond_true, cond_false] <;> rfl) (by simp only [l_number, h1, h2, h3, cond_true, cond_false] <;> rfl)
        · refine zeP rfl rfl ?_
          refine zeP rfl rfl ?_
          refine zeB2 rfl rfl (fun h4 => ?_) (fun h4 => ?_)
          · refine zeP rfl rfl ?_
            exact zeRe rfl rfl rfl rfl (by simp only [l_number, h1, h2, h3, h4, cond_true, cond_false] <;> rfl) (by simp only [l_number, h1, h2, h3, h4, cond_true, cond_false] <;> rfl)
          · refine zeK (v := -1) rfl rfl rfl ?_
            refine zeP rfl rfl ?_
            exact zeRe rfl rfl rfl rfl (by simp only [l_number, h1, h2, h3, h4, cond_true, cond_false] <;> rfl) (by simp only [l_number, h1, h2, h3, h4, cond_true, cond_false] <;> rfl)
  | succ n ih =>
    intro v p hk hp hbp
    refine zeP rfl rfl ?_
    refine zeKn (c := 48) rfl rfl rfl ?_
    refine zeKn (c := 57) rfl rfl rfl ?_
    refine zeCF rfl rfl rfl rfl rfl rfl (c_isAt (lo := (Int32.ofNat 48)) (hi := (Int32.ofNat 57)) (m := m) (W := W) (p := p) (b := b) (by first | assumption | omega) (by first | assumption | omega)) (by omega) ?_
    dsimp only [Option.toList, List.cons_append, List.nil_append]
    refine zeB1 rfl rfl (fun h1 => ?_) (fun h1 => ?_)
    · refine zeP rfl rfl ?_
      refine zeTp rfl rfl ?_
      refine zeP rfl rfl ?_
      refine zeTb rfl rfl ?_
      refine zeB2 rfl rfl (fun h2 => ?_) (fun h2 => ?_)
      · refine zeK (v := -1) rfl rfl rfl ?_
        refine zeP rfl rfl ?_
        exact zeRe rfl rfl rfl rfl (by simp only [l_number, h1, h2, cond_true, cond_false] <;> rfl) (by simp only [l_number, h1, h2, cond_true, cond_false] <;> rfl)
      · refine zeP rfl rfl ?_
        refine zeTp rfl rfl ?_
        refine zeP rfl rfl ?_
        refine zeTb rfl rfl ?_
        refine zeSub rfl hbp ?_
        refine zeKn (c := 4) rfl rfl rfl ?_
        refine zeB2 rfl rfl (fun h3 => ?_) (fun h3 => ?_)
        · refine zeK (v := -1) rfl rfl rfl ?_
          refine zeP rfl rfl ?_
          exact zeRe rfl rfl rfl rfl (by simp only [l_number, h1, h2, h3, cond_true, cond_false] <;> rfl) (by simp only [l_number, h1, h2, h3, cond_true, cond_false] <;> rfl)
        · refine zeP rfl rfl ?_
          refine zeP rfl rfl ?_
          refine zeB2 rfl rfl (fun h4 => ?_) (fun h4 => ?_)
          · refine zeK (v := -1) rfl rfl rfl ?_
            refine zeP rfl rfl ?_
            exact zeRe rfl rfl rfl rfl (by simp only [l_number, h1, h2, h3, h4, cond_true, cond_false] <;> rfl) (by simp only [l_number, h1, h2, h3, h4, cond_true, cond_false] <;> rfl)
          · refine zeP rfl rfl ?_
            refine zeP rfl rfl ?_
            refine zeB2 rfl rfl (fun h5 => ?_) (fun h5 => ?_)
            · refine zeP rfl rfl ?_
              exact zeRe rfl rfl rfl rfl (by simp only [l_number, h1, h2, h3, h4, h5, cond_true, cond_false] <;> rfl) (by simp only [l_number, h1, h2, h3, h4, h5, cond_true, cond_false] <;> rfl)
            · refine zeK (v := -1) rfl rfl rfl ?_
              refine zeP rfl rfl ?_
              exact zeRe rfl rfl rfl rfl (by simp only [l_number, h1, h2, h3, h4, h5, cond_true, cond_false] <;> rfl) (by simp only [l_number, h1, h2, h3, h4, h5, cond_true, cond_false] <;> rfl)
    · refine zeP rfl rfl ?_
      refine zeTp rfl rfl ?_
      refine zeP rfl rfl ?_
      refine zeTb rfl rfl ?_
      refine zeSub rfl hbp ?_
      refine zeKn (c := 4) rfl rfl rfl ?_
      refine zeB2 rfl rfl (fun h6 => ?_) (fun h6 => ?_)
      · refine zeP rfl rfl ?_
        refine zeP rfl rfl ?_
        refine zeP rfl rfl ?_
        refine zeP rfl rfl ?_
        refine zeTp rfl rfl ?_
        refine zeKn (c := 1) rfl rfl rfl ?_
        refine zeAdd rfl ?_
        refine zeTpS rfl rfl ?_
        refine zeP rfl rfl ?_
        simp only [l_number, h1, h6, cond_true, cond_false]
        exact ih (v) ((p + 1)) (by omega) (by have := isAt_in hG hp h1; have := hG.2; omega) (by omega)
      · refine zeKn (c := 10) rfl rfl rfl ?_
        refine zeP rfl rfl ?_
        refine zeP rfl rfl ?_
        refine zeP rfl rfl ?_
        refine zeGR rfl rfl zS137 rfl rfl ?_
        refine zeP rfl rfl ?_
        refine zeTp rfl rfl ?_
        refine zeTB (k := p) rfl (by have := isAt_in hG hp h1; have := hG.2; omega) ?_
        refine zeP rfl rfl ?_
        refine zeKn (c := 48) rfl rfl rfl ?_
        refine zeP rfl rfl ?_
        refine zeP rfl rfl ?_
        refine zeP rfl rfl ?_
        refine zeP rfl rfl ?_
        refine zeP rfl rfl ?_
        refine zeTp rfl rfl ?_
        refine zeKn (c := 1) rfl rfl rfl ?_
        refine zeAdd rfl ?_
        refine zeTpS rfl rfl ?_
        refine zeP rfl rfl ?_
        simp only [l_number, h1, h6, cond_true, cond_false]
        exact ih (((((Int32.ofNat 10) * v) + (m 141 p)) - (Int32.ofNat 48))) ((p + 1)) (by omega) (by have := isAt_in hG hp h1; have := hG.2; omega) (by omega)
def q_number (m : Nat → Nat → Int32) (p : Nat) (lo : Int32) (hi : Int32) : Int32 × Nat × Nat := ((l_number m ((skB m p)) lo hi ((pe m - skB m p)) ((Int32.ofNat 0)) ((skB m p))).1, (l_number m ((skB m p)) lo hi ((pe m - skB m p)) ((Int32.ofNat 0)) ((skB m p))).2, (skB m p))
theorem p_number {σ : Nat → Nat × (Nat → Int32)} {yy : (Nat → Nat → Int64) × Bool × Nat × Nat} {m : Nat → Nat → Int32} {W : Nat → Int32} {p b : Nat} {lo : Int32} {hi : Int32} {d : Nat} (hd : 3 ≤ d + 1) (hG : PG m) (hp : p ≤ pe m) : zEv σ (d + 1) 1849 0 [some (.ref 137), some (.int lo), some (.int hi), none] [] (zS1, zrow (TP m p b) 138 W, yy) (.inl (some (.int (q_number m p lo hi).1))) (zS1, zrow (TP m ((q_number m p lo hi).2.1) ((q_number m p lo hi).2.2)) 138 W, yy) := by
  refine zeP rfl rfl ?_
  refine zeCF rfl rfl rfl rfl rfl rfl (c_blanks (m := m) (W := W) (p := p) (b := b)  hG hp) (by omega) ?_
  dsimp only [Option.toList, List.cons_append, List.nil_append]
  refine zeKn (c := 0) rfl rfl rfl ?_
  refine zeP rfl rfl ?_
  simp only [q_number, cond_true, cond_false]
  exact w_number (lo := lo) (hi := hi) (m := m) (W := W) (b := (skB m p)) (by omega) hG ((pe m - skB m p)) ((Int32.ofNat 0)) ((skB m p)) (by omega) (by have := (skB_le hG hp).2; have := hG.2; omega) (Nat.le_refl _)
theorem c_number {σ : Nat → Nat × (Nat → Int32)} {yy : (Nat → Nat → Int64) × Bool × Nat × Nat} {m : Nat → Nat → Int32} {W : Nat → Int32} {p b : Nat} {lo : Int32} {hi : Int32} (hG : PG m) (hp : p ≤ pe m) : zF σ 3 1849 [.ref 137, .int lo, .int hi] (zS1, zrow (TP m p b) 138 W, yy) (.inl (some (.int (q_number m p lo hi).1))) (zS1, zrow (TP m ((q_number m p lo hi).2.1) ((q_number m p lo hi).2.2)) 138 W, yy) := by
  intro d hd
  obtain ⟨d, rfl⟩ : ∃ k, d = k + 1 := ⟨d - 1, by omega⟩
  exact p_number hd hG hp
