theorem l_number_le {m : Nat → Nat → Int32} {b : Nat} {lo hi : Int32} (hG : PG m) : ∀ n v p, p ≤ pe m → p ≤ (l_number m b lo hi n v p).2 ∧ (l_number m b lo hi n v p).2 ≤ pe m := by
  intro n
  induction n with
  | zero =>
    intro v p h
    unfold l_number
    have e : ∀ (c1 c2 c3 c4 : Bool) (a1 a2 a3 a4 a5 : Int32), (bif c1 then (a1, p) else bif c2 then (a2, p) else bif c3 then (a3, p) else bif c4 then (a4, p) else (a5, p)).2 = p := by
      intro c1 c2 c3 c4 _ _ _ _ _
      cases c1 <;> cases c2 <;> cases c3 <;> cases c4 <;> rfl
    rw [e]
    exact ⟨Nat.le_refl _, h⟩
  | succ n ih =>
    intro v p h
    have := hG.2
    unfold l_number
    cases h1 : zc1 .eq (q_isAt m p (Int32.ofNat 48) (Int32.ofNat 57)) with
    | true =>
      rw [cond_true]
      have e : ∀ (c1 c2 c3 c4 : Bool) (a1 a2 a3 a4 a5 : Int32), (bif c1 then (a1, p) else bif c2 then (a2, p) else bif c3 then (a3, p) else bif c4 then (a4, p) else (a5, p)).2 = p := by
        intro c1 c2 c3 c4 _ _ _ _ _
        cases c1 <;> cases c2 <;> cases c3 <;> cases c4 <;> rfl
      rw [e]
      exact ⟨Nat.le_refl _, h⟩
    | false =>
      rw [cond_false]
      have := isAt_in hG (by omega) h1
      cases zc2 .ge (Int32.ofNat (p - b)) (Int32.ofNat 4) with
      | true =>
        rw [cond_true]
        have := ih v (p + 1) (by omega)
        exact ⟨by omega, this.2⟩
      | false =>
        rw [cond_false]
        have := ih (Int32.ofNat 10 * v + m 141 p - Int32.ofNat 48) (p + 1) (by omega)
        exact ⟨by omega, this.2⟩
theorem number_le {m : Nat → Nat → Int32} {p : Nat} {lo hi : Int32} (hG : PG m) (h : p ≤ pe m) : skB m p ≤ (q_number m p lo hi).2.1 ∧ (q_number m p lo hi).2.1 ≤ pe m ∧ (q_number m p lo hi).2.2 = skB m p := by
  have h1 := l_number_le (b := skB m p) (lo := lo) (hi := hi) hG (pe m - skB m p) (Int32.ofNat 0) (skB m p) (skB_le hG h).2
  exact ⟨h1.1, h1.2, rfl⟩
theorem passes_le {m : Nat → Nat → Int32} {p c : Nat} (hG : PG m) (h : p ≤ pe m) : (q_passesSign m p c).2.1 ≤ pe m ∧ (q_passesSign m p c).2.2 ≤ (q_passesSign m p c).2.1 := by
  have h1 := skB_le hG h
  have := hG.2
  unfold q_passesSign
  cases h2 : zc1 .ne (q_isAt m (skB m p) (Int32.ofNat c) (Int32.ofNat c)) with
  | true =>
    have : skB m p < pe m := by
      apply Nat.lt_of_not_le
      intro hle
      rw [isAt_out hG (by omega) hle] at h2
      cases h2
    show skB m p + 1 ≤ pe m ∧ skB m p ≤ skB m p + 1
    omega
  | false => exact ⟨h1.2, Nat.le_refl _⟩
def q_readTo (m : Nat → Nat → Int32) (W : Nat → Int32) (p : Nat) (k : Nat) (lo : Int32) (hi : Int32) : Int32 × (Nat → Int32) × Nat × Nat := (bif zc2 .eq (q_number m p lo hi).1 (-1) then ((Int32.ofNat 0), W, (q_number m p lo hi).2.1, (q_number m p lo hi).2.2) else ((Int32.ofNat 1), (upd W k ((q_number m p lo hi).1)), (q_number m p lo hi).2.1, (q_number m p lo hi).2.2))
theorem p_readTo {σ : Nat → Nat × (Nat → Int32)} {yy : (Nat → Nat → Int64) × Bool × Nat × Nat} {m : Nat → Nat → Int32} {W : Nat → Int32} {p b : Nat} {k : Nat} {lo : Int32} {hi : Int32} {d : Nat} (hd : 4 ≤ d + 1) (hG : PG m) (hp : p ≤ pe m) (hk : k < 788) : zEv σ (d + 1) 1850 0 [some (.ref 137), some (.int (Int32.ofNat k)), some (.int lo), some (.int hi), none] [] (zS1, zrow (TP m p b) 138 W, yy) (.inl (some (.int (q_readTo m W p k lo hi).1))) (zS1, zrow (TP m ((q_readTo m W p k lo hi).2.2.1) ((q_readTo m W p k lo hi).2.2.2)) 138 ((q_readTo m W p k lo hi).2.1), yy) := by
  refine zeP rfl rfl ?_
  refine zeP rfl rfl ?_
  refine zeP rfl rfl ?_
  refine zeCF rfl rfl rfl rfl rfl rfl (c_number (lo := lo) (hi := hi) (m := m) (W := W) (p := p) (b := b) hG hp) (by omega) ?_
  dsimp only [Option.toList, List.cons_append, List.nil_append]
  refine zeP rfl rfl ?_
  refine zeP rfl rfl ?_
  refine zeK (v := -1) rfl rfl rfl ?_
  refine zeB2 rfl rfl (fun h1 => ?_) (fun h1 => ?_)
  · refine zeP rfl rfl ?_
    refine zeK (v := -1) rfl rfl rfl ?_
    refine zeT2 rfl rfl h1 ?_
    refine zeKn (c := 0) rfl rfl rfl ?_
    exact zeRe rfl rfl rfl rfl (by simp only [q_readTo, h1, cond_true, cond_false] <;> rfl) (by simp only [q_readTo, h1, cond_true, cond_false] <;> rfl)
  · refine zeP rfl rfl ?_
    refine zeGR rfl rfl zS137 rfl rfl ?_
    refine zeP rfl rfl ?_
    refine zeP rfl rfl ?_
    refine zeWS (k := k) rfl (by omega) ?_
    refine zeP rfl rfl ?_
    refine zeK (v := -1) rfl rfl rfl ?_
    refine zeF2 rfl rfl h1 ?_
    refine zeKn (c := 1) rfl rfl rfl ?_
    refine zeP rfl rfl ?_
    exact zeRe rfl rfl rfl rfl (by simp only [q_readTo, h1, cond_true, cond_false] <;> rfl) (by simp only [q_readTo, h1, cond_true, cond_false] <;> rfl)
theorem c_readTo {σ : Nat → Nat × (Nat → Int32)} {yy : (Nat → Nat → Int64) × Bool × Nat × Nat} {m : Nat → Nat → Int32} {W : Nat → Int32} {p b : Nat} {k : Nat} {lo : Int32} {hi : Int32} (hG : PG m) (hp : p ≤ pe m) (hk : k < 788) : zF σ 4 1850 [.ref 137, .int (Int32.ofNat k), .int lo, .int hi] (zS1, zrow (TP m p b) 138 W, yy) (.inl (some (.int (q_readTo m W p k lo hi).1))) (zS1, zrow (TP m ((q_readTo m W p k lo hi).2.2.1) ((q_readTo m W p k lo hi).2.2.2)) 138 ((q_readTo m W p k lo hi).2.1), yy) := by
  intro d hd
  obtain ⟨d, rfl⟩ : ∃ k, d = k + 1 := ⟨d - 1, by omega⟩
  exact p_readTo hd hG hp hk
theorem readTo_le {m : Nat → Nat → Int32} {W : Nat → Int32} {p k : Nat} {lo hi : Int32} (hG : PG m) (h : p ≤ pe m) : (q_readTo m W p k lo hi).2.2.1 ≤ pe m ∧ (q_readTo m W p k lo hi).2.2.2 ≤ (q_readTo m W p k lo hi).2.2.1 ∧ ((q_readTo m W p k lo hi).1 = 0 ∨ (q_readTo m W p k lo hi).1 = 1) := by
  obtain ⟨h1, h2, h3⟩ := number_le (lo := lo) (hi := hi) hG h
  unfold q_readTo
  cases zc2 .eq (q_number m p lo hi).1 (-1) with
  | true => exact ⟨h2, by rw [← h3] at h1; exact h1, Or.inl rfl⟩
  | false => exact ⟨h2, by rw [← h3] at h1; exact h1, Or.inr rfl⟩
theorem readTo_ne {m : Nat → Nat → Int32} {W : Nat → Int32} {p k c : Nat} {lo hi : Int32} (h : c ≠ k) : (q_readTo m W p k lo hi).2.1 c = W c := by
  unfold q_readTo
  cases zc2 .eq (q_number m p lo hi).1 (-1) with
  | true => rfl
  | false => exact upd_ne W _ h
theorem l_number_v {m : Nat → Nat → Int32} {b : Nat} {lo hi : Int32} : ∀ n v p, (l_number m b lo hi n v p).1 = -1 ∨ (lo ≤ (l_number m b lo hi n v p).1 ∧ (l_number m b lo hi n v p).1 ≤ hi) := by
  have e : ∀ (p : Nat) (v : Int32) (c1 c2 : Bool), (bif c1 then ((-1 : Int32), p) else bif c2 then (-1, p) else bif zc2 .lt v lo then (-1, p) else bif zc2 .le v hi then (v, p) else (-1, p)).1 = -1 ∨ (lo ≤ (bif c1 then ((-1 : Int32), p) else bif c2 then (-1, p) else bif zc2 .lt v lo then (-1, p) else bif zc2 .le v hi then (v, p) else (-1, p)).1 ∧ (bif c1 then ((-1 : Int32), p) else bif c2 then (-1, p) else bif zc2 .lt v lo then (-1, p) else bif zc2 .le v hi then (v, p) else (-1, p)).1 ≤ hi) := by
    intro p v c1 c2
    cases c1 with
    | true => exact Or.inl rfl
    | false =>
    cases c2 with
    | true => exact Or.inl rfl
    | false =>
    cases h3 : zc2 .lt v lo with
    | true => exact Or.inl rfl
    | false =>
    cases h4 : zc2 .le v hi with
    | false => exact Or.inl rfl
    | true => exact Or.inr ⟨Int32.not_lt.mp (of_decide_eq_false h3), of_decide_eq_true h4⟩
  intro n
  induction n with
  | zero =>
    intro v p
    unfold l_number
    exact e p v _ _
  | succ n ih =>
    intro v p
    unfold l_number
    cases zc1 .eq (q_isAt m p (Int32.ofNat 48) (Int32.ofNat 57)) with
    | true => exact e p v _ _
    | false =>
      rw [cond_false]
      cases zc2 .ge (Int32.ofNat (p - b)) (Int32.ofNat 4) with
      | true => exact ih _ _
      | false => exact ih _ _
theorem nat_btw {x : Int32} {a c : Nat} (hc : c ≤ 100000) (ha : a ≤ 100000) (h1 : Int32.ofNat a ≤ x) (h2 : x ≤ Int32.ofNat c) : x = Int32.ofNat x.toNatClampNeg ∧ x.toNatClampNeg ≤ c ∧ a ≤ x.toNatClampNeg := by
  rw [Int32.le_iff_toInt_le, zoN (by omega)] at h1 h2
  have h3 : x.toNatClampNeg = x.toInt.toNat := rfl
  refine ⟨?_, by omega, by omega⟩
  apply Int32.toInt_inj.mp
  rw [zoN (by omega), h3]
  omega
theorem number_k {m : Nat → Nat → Int32} {p a c : Nat} (hc : c ≤ 100000) (ha : a ≤ 100000) (h : ¬ (q_number m p (Int32.ofNat a) (Int32.ofNat c)).1 = -1) : (q_number m p (Int32.ofNat a) (Int32.ofNat c)).1 = Int32.ofNat (q_number m p (Int32.ofNat a) (Int32.ofNat c)).1.toNatClampNeg ∧ (q_number m p (Int32.ofNat a) (Int32.ofNat c)).1.toNatClampNeg ≤ c ∧ a ≤ (q_number m p (Int32.ofNat a) (Int32.ofNat c)).1.toNatClampNeg := by
  rcases l_number_v (m := m) (b := skB m p) (lo := Int32.ofNat a) (hi := Int32.ofNat c) (pe m - skB m p) (Int32.ofNat 0) (skB m p) with h1 | ⟨h1, h2⟩
  · exact absurd h1 h
  · exact nat_btw hc ha h1 h2
theorem zne_t {x y : Int32} (h : zc2 .ne x y = true) : ¬ x = y := of_decide_eq_true h
theorem zeq_f {x y : Int32} (h : zc2 .eq x y = false) : ¬ x = y := of_decide_eq_false h
theorem cnd4 {α : Type} (P : α → Prop) {c : Bool} {a b : α} (h1 : c = true → P a) (h2 : c = false → P b) : P (bif c then a else b) := by
  cases c with
  | true => exact h1 rfl
  | false => exact h2 rfl
/-- what a reading leaves: the point within the text, an answer that is 0 or 1 -/
def RB (m : Nat → Nat → Int32) (X : Int32 × (Nat → Int32) × Nat × Nat) : Prop := X.2.2.1 ≤ pe m ∧ X.2.2.2 ≤ X.2.2.1 ∧ (X.1 = 0 ∨ X.1 = 1)
theorem RB.bif {m : Nat → Nat → Int32} {c : Bool} {X Y : Int32 × (Nat → Int32) × Nat × Nat} (h1 : RB m X) (h2 : RB m Y) : RB m (bif c then X else Y) := cnd4 (RB m) (fun _ => h1) (fun _ => h2)
theorem RB.mk {m : Nat → Nat → Int32} {v : Int32} {W : Nat → Int32} {p b : Nat} (h1 : p ≤ pe m) (h2 : b ≤ p) (h3 : v = 0 ∨ v = 1) : RB m (v, W, p, b) := ⟨h1, h2, h3⟩
theorem RB.eta {m : Nat → Nat → Int32} {X : Int32 × (Nat → Int32) × Nat × Nat} (h : RB m X) : RB m (X.1, X.2.1, X.2.2.1, X.2.2.2) := h
def q_kindHere (m : Nat → Nat → Int32) (p : Nat) (b : Nat) : Int32 := (bif zc1 .eq (q_isWord m p b 5) then (bif zc1 .eq (q_isWord m p b 6) then (bif zc1 .eq (q_isWord m p b 7) then (bif zc1 .eq (q_isWord m p b 8) then (bif zc1 .eq (q_isWord m p b 9) then (bif zc1 .eq (q_isWord m p b 10) then (bif zc1 .eq (q_isWord m p b 11) then (bif zc1 .eq (q_isWord m p b 12) then (-1) else (Int32.ofNat 7)) else (Int32.ofNat 6)) else (Int32.ofNat 5)) else (Int32.ofNat 4)) else (Int32.ofNat 3)) else (Int32.ofNat 2)) else (Int32.ofNat 1)) else (Int32.ofNat 0))
theorem p_kindHere {σ : Nat → Nat × (Nat → Int32)} {yy : (Nat → Nat → Int64) × Bool × Nat × Nat} {m : Nat → Nat → Int32} {W : Nat → Int32} {p b : Nat} {d : Nat} (hd : 2 ≤ d + 1) (hG : PG m) (hbp : b ≤ p) (hp : p ≤ 400) : zEv σ (d + 1) 1851 0 [some (.ref 137)] [] (zS1, zrow (TP m p b) 138 W, yy) (.inl (some (.int (q_kindHere m p b)))) (zS1, zrow (TP m p b) 138 W, yy) := by
  refine zeP rfl rfl ?_
  refine zeS rfl rfl rfl ?_
  refine zeCF rfl rfl rfl rfl rfl rfl (c_isWord (s := 5) (m := m) (W := W) (p := p) (b := b) hG (by decide) hbp hp) (by omega) ?_
  dsimp only [Option.toList, List.cons_append, List.nil_append]
  refine zeB1 rfl rfl (fun h1 => ?_) (fun h1 => ?_)
  · refine zeP rfl rfl ?_
    refine zeS rfl rfl rfl ?_
    refine zeCF rfl rfl rfl rfl rfl rfl (c_isWord (s := 6) (m := m) (W := W) (p := p) (b := b) hG (by decide) hbp hp) (by omega) ?_
    dsimp only [Option.toList, List.cons_append, List.nil_append]
    refine zeB1 rfl rfl (fun h2 => ?_) (fun h2 => ?_)
    · refine zeP rfl rfl ?_
      refine zeS rfl rfl rfl ?_
      refine zeCF rfl rfl rfl rfl rfl rfl (c_isWord (s := 7) (m := m) (W := W) (p := p) (b := b) hG (by decide) hbp hp) (by omega) ?_
      dsimp only [Option.toList, List.cons_append, List.nil_append]
      refine zeB1 rfl rfl (fun h3 => ?_) (fun h3 => ?_)
      · refine zeP rfl rfl ?_
        refine zeS rfl rfl rfl ?_
        refine zeCF rfl rfl rfl rfl rfl rfl (c_isWord (s := 8) (m := m) (W := W) (p := p) (b := b) hG (by decide) hbp hp) (by omega) ?_
        dsimp only [Option.toList, List.cons_append, List.nil_append]
        refine zeB1 rfl rfl (fun h4 => ?_) (fun h4 => ?_)
        · refine zeP rfl rfl ?_
          refine zeS rfl rfl rfl ?_
          refine zeCF rfl rfl rfl rfl rfl rfl (c_isWord (s := 9) (m := m) (W := W) (p := p) (b := b) hG (by decide) hbp hp) (by omega) ?_
          dsimp only [Option.toList, List.cons_append, List.nil_append]
          refine zeB1 rfl rfl (fun h5 => ?_) (fun h5 => ?_)
          · refine zeP rfl rfl ?_
            refine zeS rfl rfl rfl ?_
            refine zeCF rfl rfl rfl rfl rfl rfl (c_isWord (s := 10) (m := m) (W := W) (p := p) (b := b) hG (by decide) hbp hp) (by omega) ?_
            dsimp only [Option.toList, List.cons_append, List.nil_append]
            refine zeB1 rfl rfl (fun h6 => ?_) (fun h6 => ?_)
            · refine zeP rfl rfl ?_
              refine zeS rfl rfl rfl ?_
              refine zeCF rfl rfl rfl rfl rfl rfl (c_isWord (s := 11) (m := m) (W := W) (p := p) (b := b) hG (by decide) hbp hp) (by omega) ?_
              dsimp only [Option.toList, List.cons_append, List.nil_append]
              refine zeB1 rfl rfl (fun h7 => ?_) (fun h7 => ?_)
              · refine zeP rfl rfl ?_
                refine zeS rfl rfl rfl ?_
                refine zeCF rfl rfl rfl rfl rfl rfl (c_isWord (s := 12) (m := m) (W := W) (p := p) (b := b) hG (by decide) hbp hp) (by omega) ?_
                dsimp only [Option.toList, List.cons_append, List.nil_append]
                refine zeB1 rfl rfl (fun h8 => ?_) (fun h8 => ?_)
                · refine zeK (v := -1) rfl rfl rfl ?_
                  exact zeRe rfl rfl rfl rfl (by simp only [q_kindHere, h1, h2, h3, h4, h5, h6, h7, h8, cond_true, cond_false] <;> rfl) (by simp only [q_kindHere, h1, h2, h3, h4, h5, h6, h7, h8, cond_true, cond_false] <;> rfl)
                · refine zeKn (c := 7) rfl rfl rfl ?_
                  refine zeP rfl rfl ?_
                  exact zeRe rfl rfl rfl rfl (by simp only [q_kindHere, h1, h2, h3, h4, h5, h6, h7, h8, cond_true, cond_false] <;> rfl) (by simp only [q_kindHere, h1, h2, h3, h4, h5, h6, h7, h8, cond_true, cond_false] <;> rfl)
              · refine zeKn (c := 6) rfl rfl rfl ?_
                exact zeRe rfl rfl rfl rfl (by simp only [q_kindHere, h1, h2, h3, h4, h5, h6, h7, cond_true, cond_false] <;> rfl) (by simp only [q_kindHere, h1, h2, h3, h4, h5, h6, h7, cond_true, cond_false] <;> rfl)
            · refine zeKn (c := 5) rfl rfl rfl ?_
              exact zeRe rfl rfl rfl rfl (by simp only [q_kindHere, h1, h2, h3, h4, h5, h6, cond_true, cond_false] <;> rfl) (by simp only [q_kindHere, h1, h2, h3, h4, h5, h6, cond_true, cond_false] <;> rfl)
          · refine zeKn (c := 4) rfl rfl rfl ?_
            exact zeRe rfl rfl rfl rfl (by simp only [q_kindHere, h1, h2, h3, h4, h5, cond_true, cond_false] <;> rfl) (by simp only [q_kindHere, h1, h2, h3, h4, h5, cond_true, cond_false] <;> rfl)
        · refine zeKn (c := 3) rfl rfl rfl ?_
          exact zeRe rfl rfl rfl rfl (by simp only [q_kindHere, h1, h2, h3, h4, cond_true, cond_false] <;> rfl) (by simp only [q_kindHere, h1, h2, h3, h4, cond_true, cond_false] <;> rfl)
      · refine zeKn (c := 2) rfl rfl rfl ?_
        exact zeRe rfl rfl rfl rfl (by simp only [q_kindHere, h1, h2, h3, cond_true, cond_false] <;> rfl) (by simp only [q_kindHere, h1, h2, h3, cond_true, cond_false] <;> rfl)
    · refine zeKn (c := 1) rfl rfl rfl ?_
      exact zeRe rfl rfl rfl rfl (by simp only [q_kindHere, h1, h2, cond_true, cond_false] <;> rfl) (by simp only [q_kindHere, h1, h2, cond_true, cond_false] <;> rfl)
  · refine zeKn (c := 0) rfl rfl rfl ?_
    exact zeRe rfl rfl rfl rfl (by simp only [q_kindHere, h1, cond_true, cond_false] <;> rfl) (by simp only [q_kindHere, h1, cond_true, cond_false] <;> rfl)
theorem c_kindHere {σ : Nat → Nat × (Nat → Int32)} {yy : (Nat → Nat → Int64) × Bool × Nat × Nat} {m : Nat → Nat → Int32} {W : Nat → Int32} {p b : Nat} (hG : PG m) (hbp : b ≤ p) (hp : p ≤ 400) : zF σ 2 1851 [.ref 137] (zS1, zrow (TP m p b) 138 W, yy) (.inl (some (.int (q_kindHere m p b)))) (zS1, zrow (TP m p b) 138 W, yy) := by
  intro d hd
  obtain ⟨d, rfl⟩ : ∃ k, d = k + 1 := ⟨d - 1, by omega⟩
  exact p_kindHere hd hG hbp hp
theorem kindHere_v (m : Nat → Nat → Int32) (p b : Nat) : q_kindHere m p b = -1 ∨ (q_kindHere m p b = Int32.ofNat (q_kindHere m p b).toNatClampNeg ∧ (q_kindHere m p b).toNatClampNeg ≤ 7) := by
  unfold q_kindHere
  cases zc1 .eq (q_isWord m p b 5) with
  | false => (dsimp only [cond_true, cond_false]; exact Or.inr ⟨by decide, by decide⟩)
  | true =>
    cases zc1 .eq (q_isWord m p b 6) with
    | false => (dsimp only [cond_true, cond_false]; exact Or.inr ⟨by decide, by decide⟩)
    | true =>
      cases zc1 .eq (q_isWord m p b 7) with
      | false => (dsimp only [cond_true, cond_false]; exact Or.inr ⟨by decide, by decide⟩)
      | true =>
        cases zc1 .eq (q_isWord m p b 8) with
        | false => (dsimp only [cond_true, cond_false]; exact Or.inr ⟨by decide, by decide⟩)
        | true =>
          cases zc1 .eq (q_isWord m p b 9) with
          | false => (dsimp only [cond_true, cond_false]; exact Or.inr ⟨by decide, by decide⟩)
          | true =>
            cases zc1 .eq (q_isWord m p b 10) with
            | false => (dsimp only [cond_true, cond_false]; exact Or.inr ⟨by decide, by decide⟩)
            | true =>
              cases zc1 .eq (q_isWord m p b 11) with
              | false => (dsimp only [cond_true, cond_false]; exact Or.inr ⟨by decide, by decide⟩)
              | true =>
                cases zc1 .eq (q_isWord m p b 12) with
                | false => (dsimp only [cond_true, cond_false]; exact Or.inr ⟨by decide, by decide⟩)
                | true =>
                  (dsimp only [cond_true, cond_false]; exact Or.inl rfl)
def q_termHere (m : Nat → Nat → Int32) (p : Nat) (b : Nat) : Int32 := (bif zc1 .eq (q_isWord m p b 14) then (bif zc1 .eq (q_isWord m p b 15) then (bif zc1 .eq (q_isWord m p b 16) then (bif zc1 .eq (q_isWord m p b 17) then (bif zc1 .eq (q_isWord m p b 18) then (bif zc1 .eq (q_isWord m p b 19) then (bif zc1 .eq (q_isWord m p b 20) then (-1) else (Int32.ofNat 7)) else (Int32.ofNat 6)) else (Int32.ofNat 5)) else (Int32.ofNat 4)) else (Int32.ofNat 3)) else (Int32.ofNat 2)) else (Int32.ofNat 1))
theorem p_termHere {σ : Nat → Nat × (Nat → Int32)} {yy : (Nat → Nat → Int64) × Bool × Nat × Nat} {m : Nat → Nat → Int32} {W : Nat → Int32} {p b : Nat} {d : Nat} (hd : 2 ≤ d + 1) (hG : PG m) (hbp : b ≤ p) (hp : p ≤ 400) : zEv σ (d + 1) 1859 0 [some (.ref 137)] [] (zS1, zrow (TP m p b) 138 W, yy) (.inl (some (.int (q_termHere m p b)))) (zS1, zrow (TP m p b) 138 W, yy) := by
  refine zeP rfl rfl ?_
  refine zeS rfl rfl rfl ?_
  refine zeCF rfl rfl rfl rfl rfl rfl (c_isWord (s := 14) (m := m) (W := W) (p := p) (b := b) hG (by decide) hbp hp) (by omega) ?_
  dsimp only [Option.toList, List.cons_append, List.nil_append]
  refine zeB1 rfl rfl (fun h1 => ?_) (fun h1 => ?_)
  · refine zeP rfl rfl ?_
    refine zeS rfl rfl rfl ?_
    refine zeCF rfl rfl rfl rfl rfl rfl (c_isWord (s := 15) (m := m) (W := W) (p := p) (b := b) hG (by decide) hbp hp) (by omega) ?_
    dsimp only [Option.toList, List.cons_append, List.nil_append]
    refine zeB1 rfl rfl (fun h2 => ?_) (fun h2 => ?_)
    · refine zeP rfl rfl ?_
      refine zeS rfl rfl rfl ?_
      refine zeCF rfl rfl rfl rfl rfl rfl (c_isWord (s := 16) (m := m) (W := W) (p := p) (b := b) hG (by decide) hbp hp) (by omega) ?_
      dsimp only [Option.toList, List.cons_append, List.nil_append]
      refine zeB1 rfl rfl (fun h3 => ?_) (fun h3 => ?_)
      · refine zeP rfl rfl ?_
        refine zeS rfl rfl rfl ?_
        refine zeCF rfl rfl rfl rfl rfl rfl (c_isWord (s := 17) (m := m) (W := W) (p := p) (b := b) hG (by decide) hbp hp) (by omega) ?_
        dsimp only [Option.toList, List.cons_append, List.nil_append]
        refine zeB1 rfl rfl (fun h4 => ?_) (fun h4 => ?_)
        · refine zeP rfl rfl ?_
          refine zeS rfl rfl rfl ?_
          refine zeCF rfl rfl rfl rfl rfl rfl (c_isWord (s := 18) (m := m) (W := W) (p := p) (b := b) hG (by decide) hbp hp) (by omega) ?_
          dsimp only [Option.toList, List.cons_append, List.nil_append]
          refine zeB1 rfl rfl (fun h5 => ?_) (fun h5 => ?_)
          · refine zeP rfl rfl ?_
            refine zeS rfl rfl rfl ?_
            refine zeCF rfl rfl rfl rfl rfl rfl (c_isWord (s := 19) (m := m) (W := W) (p := p) (b := b) hG (by decide) hbp hp) (by omega) ?_
            dsimp only [Option.toList, List.cons_append, List.nil_append]
            refine zeB1 rfl rfl (fun h6 => ?_) (fun h6 => ?_)
            · refine zeP rfl rfl ?_
              refine zeS rfl rfl rfl ?_
              refine zeCF rfl rfl rfl rfl rfl rfl (c_isWord (s := 20) (m := m) (W := W) (p := p) (b := b) hG (by decide) hbp hp) (by omega) ?_
              dsimp only [Option.toList, List.cons_append, List.nil_append]
              refine zeB1 rfl rfl (fun h7 => ?_) (fun h7 => ?_)
              · refine zeK (v := -1) rfl rfl rfl ?_
                exact zeRe rfl rfl rfl rfl (by simp only [q_termHere, h1, h2, h3, h4, h5, h6, h7, cond_true, cond_false] <;> rfl) (by simp only [q_termHere, h1, h2, h3, h4, h5, h6, h7, cond_true, cond_false] <;> rfl)
              · refine zeKn (c := 7) rfl rfl rfl ?_
                refine zeP rfl rfl ?_
                exact zeRe rfl rfl rfl rfl (by simp only [q_termHere, h1, h2, h3, h4, h5, h6, h7, cond_true, cond_false] <;> rfl) (by simp only [q_termHere, h1, h2, h3, h4, h5, h6, h7, cond_true, cond_false] <;> rfl)
            · refine zeKn (c := 6) rfl rfl rfl ?_
              exact zeRe rfl rfl rfl rfl (by simp only [q_termHere, h1, h2, h3, h4, h5, h6, cond_true, cond_false] <;> rfl) (by simp only [q_termHere, h1, h2, h3, h4, h5, h6, cond_true, cond_false] <;> rfl)
          · refine zeKn (c := 5) rfl rfl rfl ?_
            exact zeRe rfl rfl rfl rfl (by simp only [q_termHere, h1, h2, h3, h4, h5, cond_true, cond_false] <;> rfl) (by simp only [q_termHere, h1, h2, h3, h4, h5, cond_true, cond_false] <;> rfl)
        · refine zeKn (c := 4) rfl rfl rfl ?_
          exact zeRe rfl rfl rfl rfl (by simp only [q_termHere, h1, h2, h3, h4, cond_true, cond_false] <;> rfl) (by simp only [q_termHere, h1, h2, h3, h4, cond_true, cond_false] <;> rfl)
      · refine zeKn (c := 3) rfl rfl rfl ?_
        exact zeRe rfl rfl rfl rfl (by simp only [q_termHere, h1, h2, h3, cond_true, cond_false] <;> rfl) (by simp only [q_termHere, h1, h2, h3, cond_true, cond_false] <;> rfl)
    · refine zeKn (c := 2) rfl rfl rfl ?_
      exact zeRe rfl rfl rfl rfl (by simp only [q_termHere, h1, h2, cond_true, cond_false] <;> rfl) (by simp only [q_termHere, h1, h2, cond_true, cond_false] <;> rfl)
  · refine zeKn (c := 1) rfl rfl rfl ?_
    exact zeRe rfl rfl rfl rfl (by simp only [q_termHere, h1, cond_true, cond_false] <;> rfl) (by simp only [q_termHere, h1, cond_true, cond_false] <;> rfl)
theorem c_termHere {σ : Nat → Nat × (Nat → Int32)} {yy : (Nat → Nat → Int64) × Bool × Nat × Nat} {m : Nat → Nat → Int32} {W : Nat → Int32} {p b : Nat} (hG : PG m) (hbp : b ≤ p) (hp : p ≤ 400) : zF σ 2 1859 [.ref 137] (zS1, zrow (TP m p b) 138 W, yy) (.inl (some (.int (q_termHere m p b)))) (zS1, zrow (TP m p b) 138 W, yy) := by
  intro d hd
  obtain ⟨d, rfl⟩ : ∃ k, d = k + 1 := ⟨d - 1, by omega⟩
  exact p_termHere hd hG hbp hp
theorem termHere_v (m : Nat → Nat → Int32) (p b : Nat) : q_termHere m p b = -1 ∨ (q_termHere m p b = Int32.ofNat (q_termHere m p b).toNatClampNeg ∧ (q_termHere m p b).toNatClampNeg ≤ 7 ∧ 1 ≤ (q_termHere m p b).toNatClampNeg) := by
  unfold q_termHere
  cases zc1 .eq (q_isWord m p b 14) with
  | false => (dsimp only [cond_true, cond_false]; exact Or.inr ⟨by decide, by decide, by decide⟩)
  | true =>
    cases zc1 .eq (q_isWord m p b 15) with
    | false => (dsimp only [cond_true, cond_false]; exact Or.inr ⟨by decide, by decide, by decide⟩)
    | true =>
      cases zc1 .eq (q_isWord m p b 16) with
      | false => (dsimp only [cond_true, cond_false]; exact Or.inr ⟨by decide, by decide, by decide⟩)
      | true =>
        cases zc1 .eq (q_isWord m p b 17) with
        | false => (dsimp only [cond_true, cond_false]; exact Or.inr ⟨by decide, by decide, by decide⟩)
        | true =>
          cases zc1 .eq (q_isWord m p b 18) with
          | false => (dsimp only [cond_true, cond_false]; exact Or.inr ⟨by decide, by decide, by decide⟩)
          | true =>
            cases zc1 .eq (q_isWord m p b 19) with
            | false => (dsimp only [cond_true, cond_false]; exact Or.inr ⟨by decide, by decide, by decide⟩)
            | true =>
              cases zc1 .eq (q_isWord m p b 20) with
              | false => (dsimp only [cond_true, cond_false]; exact Or.inr ⟨by decide, by decide, by decide⟩)
              | true =>
                (dsimp only [cond_true, cond_false]; exact Or.inl rfl)
theorem kindHere_k {m : Nat → Nat → Int32} {p b : Nat} (h : zc2 .eq (q_kindHere m p b) (-1) = false) : q_kindHere m p b = Int32.ofNat (q_kindHere m p b).toNatClampNeg ∧ (q_kindHere m p b).toNatClampNeg ≤ 7 := by
  rcases kindHere_v m p b with h1 | h1
  · exact absurd h1 (of_decide_eq_false h)
  · exact h1
theorem termHere_k {m : Nat → Nat → Int32} {p b : Nat} (h : zc2 .eq (q_termHere m p b) (-1) = false) : q_termHere m p b = Int32.ofNat (q_termHere m p b).toNatClampNeg ∧ (q_termHere m p b).toNatClampNeg ≤ 7 ∧ 1 ≤ (q_termHere m p b).toNatClampNeg := by
  rcases termHere_v m p b with h1 | h1
  · exact absurd h1 (of_decide_eq_false h)
  · exact h1
theorem letters_le {m : Nat → Nat → Int32} {p : Nat} (hG : PG m) (h : p ≤ pe m) : (q_letters m p).1 ≤ pe m ∧ (q_letters m p).2 ≤ (q_letters m p).1 := ⟨(skL_le hG h).2, (skL_le hG h).1⟩
theorem tne_t {a b : Nat} (h : zc2 .ne (Int32.ofNat a) (Int32.ofNat b) = true) : a ≠ b := by
  intro e
  subst e
  exact absurd rfl (of_decide_eq_true h)
