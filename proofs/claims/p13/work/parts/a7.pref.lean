theorem teq_t {a b : Nat} (h : a = b) : zc2 .eq (Int32.ofNat a) (Int32.ofNat b) = true := by
  subst h
  exact decide_eq_true rfl
theorem teq_f {a b : Nat} (ha : a ≤ 100000) (hb : b ≤ 100000) (h : a ≠ b) : zc2 .eq (Int32.ofNat a) (Int32.ofNat b) = false := by
  apply decide_eq_false
  intro e
  have h3 := congrArg Int32.toInt e
  rw [zoN (by omega), zoN (by omega)] at h3
  omega
theorem WG.T9 {W : Nat → Int32} (h : WG W) : W 9 = Int32.ofNat (nv W 9) ∧ nv W 9 ≤ 4 := ⟨h.N, h.N4⟩
noncomputable def l_readText (m : Nat → Nat → Int32) : Nat → Nat → (Nat → Int32) → Nat → Nat → Int32 × (Nat → Int32) × Nat × Nat
  | 0, k, W, p, b => ((Int32.ofNat 0), W, (q_letters m p).1, (q_letters m p).2)
  | n + 1, k, W, p, b => (bif zc1 .ne (q_readLine m W ((q_letters m p).1) ((q_letters m p).2)).1 then (bif zc2 .ne (Int32.ofNat (skB m ((q_readLine m W ((q_letters m p).1) ((q_letters m p).2)).2.2.1))) (Int32.ofNat (pe m)) then (bif zc1 .ne (q_passesSign m ((skB m ((q_readLine m W ((q_letters m p).1) ((q_letters m p).2)).2.2.1))) 59).1 then (l_readText m n ((k + 1)) ((q_readLine m W ((q_letters m p).1) ((q_letters m p).2)).2.1) ((q_passesSign m ((skB m ((q_readLine m W ((q_letters m p).1) ((q_letters m p).2)).2.2.1))) 59).2.1) ((q_passesSign m ((skB m ((q_readLine m W ((q_letters m p).1) ((q_letters m p).2)).2.2.1))) 59).2.2)) else ((Int32.ofNat 0), (q_readLine m W ((q_letters m p).1) ((q_letters m p).2)).2.1, (q_passesSign m ((skB m ((q_readLine m W ((q_letters m p).1) ((q_letters m p).2)).2.2.1))) 59).2.1, (q_passesSign m ((skB m ((q_readLine m W ((q_letters m p).1) ((q_letters m p).2)).2.2.1))) 59).2.2)) else ((Int32.ofNat 1), (q_readLine m W ((q_letters m p).1) ((q_letters m p).2)).2.1, (skB m ((q_readLine m W ((q_letters m p).1) ((q_letters m p).2)).2.2.1)), (skB m ((q_readLine m W ((q_letters m p).1) ((q_letters m p).2)).2.2.1)))) else ((Int32.ofNat 0), (q_readLine m W ((q_letters m p).1) ((q_letters m p).2)).2.1, (q_readLine m W ((q_letters m p).1) ((q_letters m p).2)).2.2.1, (q_readLine m W ((q_letters m p).1) ((q_letters m p).2)).2.2.2))
theorem w_readText {σ : Nat → Nat × (Nat → Int32)} {yy : (Nat → Nat → Int64) × Bool × Nat × Nat} {m : Nat → Nat → Int32} {d : Nat} (hd : 8 ≤ d + 1) (hG : PG m) : ∀ (n : Nat) (k : Nat) (W : (Nat → Int32)) (p : Nat) (b : Nat), k + n = 14 → p ≤ pe m → WG W → zEv σ (d + 1) 1861 19 [some (.ref 137), some (.int (Int32.ofNat k))] [] (zS1, zrow (TP m p b) 138 W, yy) (.inl (some (.int (l_readText m n k W p b).1))) (zS1, zrow (TP m ((l_readText m n k W p b).2.2.1) ((l_readText m n k W p b).2.2.2)) 138 ((l_readText m n k W p b).2.1), yy) := by
  intro n
  induction n with
  | zero =>
    intro k W p b hk hp hW
    refine zeP rfl rfl ?_
    refine zeCF rfl rfl rfl rfl rfl rfl (c_letters  (m := m) (W := W) (p := p) (b := b) hG hp) (by omega) ?_
    dsimp only [Option.toList, List.cons_append, List.nil_append]
    refine zeP rfl rfl ?_
    refine zeKn (c := 14) rfl rfl rfl ?_
    refine zeT2 rfl rfl (teq_t (by omega)) ?_
    refine zeKn (c := 0) rfl rfl rfl ?_
    exact zeRe rfl rfl rfl rfl (by rfl) (by rfl)
  | succ n ih =>
    intro k W p b hk hp hW
    refine zeP rfl rfl ?_
    refine zeCF rfl rfl rfl rfl rfl rfl (c_letters  (m := m) (W := W) (p := p) (b := b) hG hp) (by omega) ?_
    dsimp only [Option.toList, List.cons_append, List.nil_append]
    refine zeP rfl rfl ?_
    refine zeKn (c := 14) rfl rfl rfl ?_
    refine zeF2 rfl rfl (teq_f (by omega) (by omega) (by omega)) ?_
    refine zeP rfl rfl ?_
    refine zeCF rfl rfl rfl rfl rfl rfl (c_readLine  (m := m) (W := W) (p := (q_letters m p).1) (b := (q_letters m p).2) hG (letters_le hG hp).1 (letters_le hG hp).2 hW.T9) (by omega) ?_
    dsimp only [Option.toList, List.cons_append, List.nil_append]
    refine zeB1 rfl rfl (fun h1 => ?_) (fun h1 => ?_)
    · refine zeP rfl rfl ?_
      refine zeCF rfl rfl rfl rfl rfl rfl (c_blanks (m := m) (W := (q_readLine m W ((q_letters m p).1) ((q_letters m p).2)).2.1) (p := (q_readLine m W ((q_letters m p).1) ((q_letters m p).2)).2.2.1) (b := (q_readLine m W ((q_letters m p).1) ((q_letters m p).2)).2.2.2)  hG (readLine_RB hG (letters_le hG hp).1 (letters_le hG hp).2).1) (by omega) ?_
      dsimp only [Option.toList, List.cons_append, List.nil_append]
      refine zeP rfl rfl ?_
      refine zeTp rfl rfl ?_
      refine zeP rfl rfl ?_
      refine zeTe hG.1 rfl rfl ?_
      refine zeB2 rfl rfl (fun h2 => ?_) (fun h2 => ?_)
      · refine zeP rfl rfl ?_
        refine zeKn (c := 59) rfl rfl rfl ?_
        refine zeCF rfl rfl rfl rfl rfl rfl (c_passesSign (c := 59) (m := m) (W := (q_readLine m W ((q_letters m p).1) ((q_letters m p).2)).2.1) (p := (skB m ((q_readLine m W ((q_letters m p).1) ((q_letters m p).2)).2.2.1))) (b := (skB m ((q_readLine m W ((q_letters m p).1) ((q_letters m p).2)).2.2.1))) hG (skB_le hG (readLine_RB hG (letters_le hG hp).1 (letters_le hG hp).2).1).2) (by omega) ?_
        dsimp only [Option.toList, List.cons_append, List.nil_append]
        refine zeB1 rfl rfl (fun h3 => ?_) (fun h3 => ?_)
        · refine zeInc rfl rfl ?_
          refine zeP rfl rfl ?_
          simp only [l_readText, h1, h2, h3, cond_true, cond_false]
          exact ih ((k + 1)) ((q_readLine m W ((q_letters m p).1) ((q_letters m p).2)).2.1) ((q_passesSign m ((skB m ((q_readLine m W ((q_letters m p).1) ((q_letters m p).2)).2.2.1))) 59).2.1) ((q_passesSign m ((skB m ((q_readLine m W ((q_letters m p).1) ((q_letters m p).2)).2.2.1))) 59).2.2) (by omega) (passes_le hG (skB_le hG (readLine_RB hG (letters_le hG hp).1 (letters_le hG hp).2).1).2).1 (readLine_WG hW (ne1 h1))
        · refine zeKn (c := 0) rfl rfl rfl ?_
          exact zeRe rfl rfl rfl rfl (by simp only [l_readText, h1, h2, h3, cond_true, cond_false] <;> rfl) (by simp only [l_readText, h1, h2, h3, cond_true, cond_false] <;> rfl)
      · refine zeKn (c := 1) rfl rfl rfl ?_
        exact zeRe rfl rfl rfl rfl (by simp only [l_readText, h1, h2, cond_true, cond_false] <;> rfl) (by simp only [l_readText, h1, h2, cond_true, cond_false] <;> rfl)
    · refine zeKn (c := 0) rfl rfl rfl ?_
      exact zeRe rfl rfl rfl rfl (by simp only [l_readText, h1, cond_true, cond_false] <;> rfl) (by simp only [l_readText, h1, cond_true, cond_false] <;> rfl)
noncomputable def q_readText (m : Nat → Nat → Int32) (W : Nat → Int32) (p : Nat) : Int32 × (Nat → Int32) × Nat × Nat := (bif zc2 .ne (Int32.ofNat (skB m p)) (Int32.ofNat (pe m)) then (l_readText m 14 0 W ((skB m p)) ((skB m p))) else ((Int32.ofNat 1), W, (skB m p), (skB m p)))
theorem p_readText {σ : Nat → Nat × (Nat → Int32)} {yy : (Nat → Nat → Int64) × Bool × Nat × Nat} {m : Nat → Nat → Int32} {W : Nat → Int32} {p b : Nat} {d : Nat} (hd : 8 ≤ d + 1) (hG : PG m) (hp : p ≤ pe m) (hW : WG W) : zEv σ (d + 1) 1861 0 [some (.ref 137), none] [] (zS1, zrow (TP m p b) 138 W, yy) (.inl (some (.int (q_readText m W p).1))) (zS1, zrow (TP m ((q_readText m W p).2.2.1) ((q_readText m W p).2.2.2)) 138 ((q_readText m W p).2.1), yy) := by
  refine zeP rfl rfl ?_
  refine zeCF rfl rfl rfl rfl rfl rfl (c_blanks (m := m) (W := W) (p := p) (b := b)  hG hp) (by omega) ?_
  dsimp only [Option.toList, List.cons_append, List.nil_append]
  refine zeP rfl rfl ?_
  refine zeTp rfl rfl ?_
  refine zeP rfl rfl ?_
  refine zeTe hG.1 rfl rfl ?_
  refine zeB2 rfl rfl (fun h1 => ?_) (fun h1 => ?_)
  · refine zeKn (c := 0) rfl rfl rfl ?_
    refine zeP rfl rfl ?_
    simp only [q_readText, h1, cond_true, cond_false]
    exact w_readText  (m := m) (by omega) hG 14 (0) W ((skB m p)) ((skB m p)) (by omega) (skB_le hG hp).2 hW
  · refine zeKn (c := 1) rfl rfl rfl ?_
    exact zeRe rfl rfl rfl rfl (by simp only [q_readText, h1, cond_true, cond_false] <;> rfl) (by simp only [q_readText, h1, cond_true, cond_false] <;> rfl)
theorem c_readText {σ : Nat → Nat × (Nat → Int32)} {yy : (Nat → Nat → Int64) × Bool × Nat × Nat} {m : Nat → Nat → Int32} {W : Nat → Int32} {p b : Nat} (hG : PG m) (hp : p ≤ pe m) (hW : WG W) : zF σ 8 1861 [.ref 137] (zS1, zrow (TP m p b) 138 W, yy) (.inl (some (.int (q_readText m W p).1))) (zS1, zrow (TP m ((q_readText m W p).2.2.1) ((q_readText m W p).2.2.2)) 138 ((q_readText m W p).2.1), yy) := by
  intro d hd
  obtain ⟨d, rfl⟩ : ∃ k, d = k + 1 := ⟨d - 1, by omega⟩
  exact p_readText hd hG hp hW
/-- a text read: its bounds, its world -/
noncomputable def RT (m : Nat → Nat → Int32) (X : Int32 × (Nat → Int32) × Nat × Nat) : Prop := RB m X ∧ RW X
theorem RT.mk {m : Nat → Nat → Int32} {v : Int32} {W : Nat → Int32} {p b : Nat} (h1 : p ≤ pe m) (h2 : b ≤ p) (h3 : v = 0 ∨ v = 1) (h4 : RW (v, W, p, b)) : RT m (v, W, p, b) := ⟨RB.mk h1 h2 h3, h4⟩
theorem l_readText_WG {m : Nat → Nat → Int32} (hG : PG m) : ∀ (n k : Nat) (W : Nat → Int32) (p b : Nat), p ≤ pe m → WG W → RT m (l_readText m n k W p b) := by
  intro n
  induction n with
  | zero =>
    intro k W p b hp hW
    have h1 := letters_le hG hp
    exact RT.mk h1.1 h1.2 (Or.inl rfl) RW.no
  | succ n ih =>
    intro k W p b hp hW
    have h1 := letters_le hG hp
    have h2 := readLine_RB (W := W) hG h1.1 h1.2
    have h3 := skB_le hG h2.1
    have h4 := passes_le (c := 59) hG h3.2
    unfold l_readText
    refine cnd4 (RT m) (fun h5 => ?_) (fun _ => RT.mk h2.1 h2.2.1 (Or.inl rfl) RW.no)
    have h6 := readLine_WG hW (ne1 h5)
    refine cnd4 (RT m) (fun _ => cnd4 (RT m) (fun _ => ih _ _ _ _ h4.1 h6) (fun _ => RT.mk h4.1 h4.2 (Or.inl rfl) RW.no)) (fun _ => RT.mk h3.2 (Nat.le_refl _) (Or.inr rfl) (RW.mk h6))
theorem readText_WG {m : Nat → Nat → Int32} {W : Nat → Int32} {p : Nat} (hG : PG m) (hp : p ≤ pe m) (hW : WG W) : RT m (q_readText m W p) := by
  have h3 := skB_le hG hp
  unfold q_readText
  exact cnd4 (RT m) (fun _ => l_readText_WG hG _ _ _ _ _ h3.2 hW) (fun _ => RT.mk h3.2 (Nat.le_refl _) (Or.inr rfl) (RW.mk hW))
