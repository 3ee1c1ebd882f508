noncomputable def q_readWordLine (m : Nat → Nat → Int32) (W : Nat → Int32) (p : Nat) : Int32 × (Nat → Int32) × Nat × Nat := (bif zc2 .ne (q_number m p ((Int32.ofNat 0)) ((Int32.ofNat 31))).1 (-1) then (bif zc2 .ne (q_number m ((q_number m p ((Int32.ofNat 0)) ((Int32.ofNat 31))).2.1) ((Int32.ofNat 0)) ((Int32.ofNat 9999))).1 (-1) then ((Int32.ofNat 1), (upd ((upd W ((32 + (((q_number m p ((Int32.ofNat 0)) ((Int32.ofNat 31))).1).toNatClampNeg))) ((q_number m ((q_number m p ((Int32.ofNat 0)) ((Int32.ofNat 31))).2.1) ((Int32.ofNat 0)) ((Int32.ofNat 9999))).1))) ((64 + (((q_number m p ((Int32.ofNat 0)) ((Int32.ofNat 31))).1).toNatClampNeg))) ((q_number m ((q_number m p ((Int32.ofNat 0)) ((Int32.ofNat 31))).2.1) ((Int32.ofNat 0)) ((Int32.ofNat 9999))).1)), (q_number m ((q_number m p ((Int32.ofNat 0)) ((Int32.ofNat 31))).2.1) ((Int32.ofNat 0)) ((Int32.ofNat 9999))).2.1, (q_number m ((q_number m p ((Int32.ofNat 0)) ((Int32.ofNat 31))).2.1) ((Int32.ofNat 0)) ((Int32.ofNat 9999))).2.2) else ((Int32.ofNat 0), W, (q_number m ((q_number m p ((Int32.ofNat 0)) ((Int32.ofNat 31))).2.1) ((Int32.ofNat 0)) ((Int32.ofNat 9999))).2.1, (q_number m ((q_number m p ((Int32.ofNat 0)) ((Int32.ofNat 31))).2.1) ((Int32.ofNat 0)) ((Int32.ofNat 9999))).2.2)) else ((Int32.ofNat 0), W, (q_number m p ((Int32.ofNat 0)) ((Int32.ofNat 31))).2.1, (q_number m p ((Int32.ofNat 0)) ((Int32.ofNat 31))).2.2))
theorem p_readWordLine {σ : Nat → Nat × (Nat → Int32)} {yy : (Nat → Nat → Int64) × Bool × Nat × Nat} {m : Nat → Nat → Int32} {W : Nat → Int32} {p b : Nat} {d : Nat} (hd : 4 ≤ d + 1) (hG : PG m) (hp : p ≤ pe m) : zEv σ (d + 1) 1854 0 [some (.ref 137), none, none] [] (zS1, zrow (TP m p b) 138 W, yy) (.inl (some (.int (q_readWordLine m W p).1))) (zS1, zrow (TP m ((q_readWordLine m W p).2.2.1) ((q_readWordLine m W p).2.2.2)) 138 ((q_readWordLine m W p).2.1), yy) := by
  refine zeP rfl rfl ?_
  refine zeKn (c := 0) rfl rfl rfl ?_
  refine zeKn (c := 31) rfl rfl rfl ?_
  refine zeCF rfl rfl rfl rfl rfl rfl (c_number (lo := (Int32.ofNat 0)) (hi := (Int32.ofNat 31)) (m := m) (W := W) (p := p) (b := b) hG hp) (by omega) ?_
  dsimp only [Option.toList, List.cons_append, List.nil_append]
  refine zeP rfl rfl ?_
  refine zeP rfl rfl ?_
  refine zeK (v := -1) rfl rfl rfl ?_
  refine zeB2 rfl rfl (fun h1 => ?_) (fun h1 => ?_)
  · refine zeP rfl rfl ?_
    refine zeKn (c := 0) rfl rfl rfl ?_
    refine zeKn (c := 9999) rfl rfl rfl ?_
    refine zeCF rfl rfl rfl rfl rfl rfl (c_number (lo := (Int32.ofNat 0)) (hi := (Int32.ofNat 9999)) (m := m) (W := W) (p := (q_number m p ((Int32.ofNat 0)) ((Int32.ofNat 31))).2.1) (b := (q_number m p ((Int32.ofNat 0)) ((Int32.ofNat 31))).2.2) hG (number_le hG hp).2.1) (by omega) ?_
    dsimp only [Option.toList, List.cons_append, List.nil_append]
    refine zeP rfl rfl ?_
    refine zeP rfl rfl ?_
    refine zeK (v := -1) rfl rfl rfl ?_
    refine zeB2 rfl rfl (fun h2 => ?_) (fun h2 => ?_)
    · have hw : (q_number m p ((Int32.ofNat 0)) ((Int32.ofNat 31))).1 = Int32.ofNat ((q_number m p ((Int32.ofNat 0)) ((Int32.ofNat 31))).1).toNatClampNeg ∧ ((q_number m p ((Int32.ofNat 0)) ((Int32.ofNat 31))).1).toNatClampNeg ≤ 31 := ⟨(number_k (by omega) (by omega) (zne_t h1)).1, (number_k (by omega) (by omega) (zne_t h1)).2.1⟩
      refine zeP rfl rfl ?_
      refine zeGR rfl rfl zS137 rfl rfl ?_
      refine zeKn (c := 32) rfl rfl rfl ?_
      refine zeKn (c := ((q_number m p ((Int32.ofNat 0)) ((Int32.ofNat 31))).1).toNatClampNeg) rfl rfl hw.1 ?_
      refine zeAdd rfl ?_
      refine zeP rfl rfl ?_
      refine zeWS (k := (32 + (((q_number m p ((Int32.ofNat 0)) ((Int32.ofNat 31))).1).toNatClampNeg))) rfl (by omega) ?_
      refine zeP rfl rfl ?_
      refine zeGR rfl rfl zS137 rfl rfl ?_
      refine zeKn (c := 64) rfl rfl rfl ?_
      refine zeKn (c := ((q_number m p ((Int32.ofNat 0)) ((Int32.ofNat 31))).1).toNatClampNeg) rfl rfl hw.1 ?_
      refine zeAdd rfl ?_
      refine zeP rfl rfl ?_
      refine zeWS (k := (64 + (((q_number m p ((Int32.ofNat 0)) ((Int32.ofNat 31))).1).toNatClampNeg))) rfl (by omega) ?_
      refine zeKn (c := 1) rfl rfl rfl ?_
      exact zeRe rfl rfl rfl rfl (by simp only [q_readWordLine, h1, h2, cond_true, cond_false] <;> rfl) (by simp only [q_readWordLine, h1, h2, cond_true, cond_false] <;> rfl)
    · refine zeKn (c := 0) rfl rfl rfl ?_
      exact zeRe rfl rfl rfl rfl (by simp only [q_readWordLine, h1, h2, cond_true, cond_false] <;> rfl) (by simp only [q_readWordLine, h1, h2, cond_true, cond_false] <;> rfl)
  · refine zeK (v := -1) rfl rfl rfl ?_
    refine zeP rfl rfl ?_
    refine zeP rfl rfl ?_
    refine zeP rfl rfl ?_
    refine zeK (v := -1) rfl rfl rfl ?_
    refine zeF2 rfl rfl (show zc2 .ne (-1) (-1) = false by decide) ?_
    refine zeKn (c := 0) rfl rfl rfl ?_
    exact zeRe rfl rfl rfl rfl (by simp only [q_readWordLine, h1, cond_true, cond_false] <;> rfl) (by simp only [q_readWordLine, h1, cond_true, cond_false] <;> rfl)
theorem c_readWordLine {σ : Nat → Nat × (Nat → Int32)} {yy : (Nat → Nat → Int64) × Bool × Nat × Nat} {m : Nat → Nat → Int32} {W : Nat → Int32} {p b : Nat} (hG : PG m) (hp : p ≤ pe m) : zF σ 4 1854 [.ref 137] (zS1, zrow (TP m p b) 138 W, yy) (.inl (some (.int (q_readWordLine m W p).1))) (zS1, zrow (TP m ((q_readWordLine m W p).2.2.1) ((q_readWordLine m W p).2.2.2)) 138 ((q_readWordLine m W p).2.1), yy) := by
  intro d hd
  obtain ⟨d, rfl⟩ : ∃ k, d = k + 1 := ⟨d - 1, by omega⟩
  exact p_readWordLine hd hG hp
noncomputable def l_readLock (W : Nat → Int32) (l : Int32) (w : Int32) : Nat → Int32 → Nat → Int32 × (Nat → Int32)
  | 0, is, o => (bif zc1 .eq is then (is, W) else (is, (upd W ((16 + (l.toNatClampNeg))) w)))
  | n + 1, is, o => (bif zc1 .eq is then (is, W) else (bif zc2 .eq (Int32.ofNat o) l then (l_readLock W l w n ((Int32.ofNat 1)) ((o + 1))) else (bif zc2 .eq (W ((16 + o))) w then (l_readLock W l w n ((Int32.ofNat 0)) ((o + 1))) else (l_readLock W l w n ((Int32.ofNat 1)) ((o + 1))))))
theorem w_readLock {σ : Nat → Nat × (Nat → Int32)} {yy : (Nat → Nat → Int64) × Bool × Nat × Nat} {m : Nat → Nat → Int32} {W : (Nat → Int32)} {p : Nat} {b : Nat} {l : Int32} {w : Int32} {d : Nat} (hd : 1 ≤ d + 1) (hl : l = Int32.ofNat l.toNatClampNeg ∧ l.toNatClampNeg ≤ 3) : ∀ (n : Nat) (is : Int32) (o : Nat), o + n = 4 → is = 0 ∨ is = 1 → zEv σ (d + 1) 1855 51 [some (.ref 137), some (.int l), some (.int w), some (.int is), some (.int (Int32.ofNat o))] [] (zS1, zrow (TP m p b) 138 W, yy) (.inl (some (.int (l_readLock W l w n is o).1))) (zS1, zrow (TP m p b) 138 ((l_readLock W l w n is o).2), yy) := by
  intro n
  induction n with
  | zero =>
    intro is o hk his
    refine zeP rfl rfl ?_
    refine zeKn (c := 4) rfl rfl rfl ?_
    refine zeT2 rfl rfl (zcge (by omega) (by omega) (by omega)) ?_
    refine zeP rfl rfl ?_
    refine zeB1 rfl rfl (fun h1 => ?_) (fun h1 => ?_)
    · refine zeP rfl rfl ?_
      exact zeRe rfl rfl rfl (zretB rfl rfl his) (by simp only [l_readLock, h1, cond_true, cond_false] <;> rfl) (by simp only [l_readLock, h1, cond_true, cond_false] <;> rfl)
    · have hl3 : l = Int32.ofNat l.toNatClampNeg ∧ l.toNatClampNeg ≤ 3 := hl
      refine zeP rfl rfl ?_
      refine zeGR rfl rfl zS137 rfl rfl ?_
      refine zeKn (c := 16) rfl rfl rfl ?_
      refine zeKn (c := l.toNatClampNeg) rfl rfl hl3.1 ?_
      refine zeAdd rfl ?_
      refine zeP rfl rfl ?_
      refine zeWS (k := (16 + (l.toNatClampNeg))) rfl (by omega) ?_
      refine zeP rfl rfl ?_
      exact zeRe rfl rfl rfl (zretB rfl rfl his) (by simp only [l_readLock, h1, cond_true, cond_false] <;> rfl) (by simp only [l_readLock, h1, cond_true, cond_false] <;> rfl)
  | succ n ih =>
    intro is o hk his
    refine zeP rfl rfl ?_
    refine zeKn (c := 4) rfl rfl rfl ?_
    refine zeF2 rfl rfl (zcge_f (by omega) (by omega) (by omega)) ?_
    refine zeP rfl rfl ?_
    refine zeB1 rfl rfl (fun h1 => ?_) (fun h1 => ?_)
    · refine zeP rfl rfl ?_
      refine zeT1 rfl rfl h1 ?_
      refine zeP rfl rfl ?_
      exact zeRe rfl rfl rfl (zretB rfl rfl his) (by simp only [l_readLock, h1, cond_true, cond_false] <;> rfl) (by simp only [l_readLock, h1, cond_true, cond_false] <;> rfl)
    · refine zeP rfl rfl ?_
      refine zeP rfl rfl ?_
      refine zeB2 rfl rfl (fun h2 => ?_) (fun h2 => ?_)
      · refine zeKn (c := 1) rfl rfl rfl ?_
        refine zeP rfl rfl ?_
        refine zeP rfl rfl ?_
        refine zeInc rfl rfl ?_
        refine zeP rfl rfl ?_
        simp only [l_readLock, h1, h2, cond_true, cond_false]
        exact ih ((Int32.ofNat 1)) ((o + 1))  (by omega) (by first | exact Or.inr rfl | exact Or.inl rfl)
      · refine zeP rfl rfl ?_
        refine zeGR rfl rfl zS137 rfl rfl ?_
        refine zeKn (c := 16) rfl rfl rfl ?_
        refine zeP rfl rfl ?_
        refine zeAdd rfl ?_
        refine zeWL (k := (16 + o)) rfl (by omega) ?_
        refine zeP rfl rfl ?_
        refine zeB2 rfl rfl (fun h3 => ?_) (fun h3 => ?_)
        · refine zeKn (c := 0) rfl rfl rfl ?_
          refine zeP rfl rfl ?_
          refine zeInc rfl rfl ?_
          refine zeP rfl rfl ?_
          simp only [l_readLock, h1, h2, h3, cond_true, cond_false]
          exact ih ((Int32.ofNat 0)) ((o + 1))  (by omega) (by first | exact Or.inr rfl | exact Or.inl rfl)
        · refine zeKn (c := 1) rfl rfl rfl ?_
          refine zeP rfl rfl ?_
          refine zeP rfl rfl ?_
          refine zeInc rfl rfl ?_
          refine zeP rfl rfl ?_
          simp only [l_readLock, h1, h2, h3, cond_true, cond_false]
          exact ih ((Int32.ofNat 1)) ((o + 1))  (by omega) (by first | exact Or.inr rfl | exact Or.inl rfl)
noncomputable def q_readLock (m : Nat → Nat → Int32) (W : Nat → Int32) (p : Nat) : Int32 × (Nat → Int32) × Nat × Nat := (bif zc2 .ne (q_number m p ((Int32.ofNat 0)) ((Int32.ofNat 3))).1 (-1) then (bif zc1 .ne (q_isWord m ((q_letters m ((q_number m p ((Int32.ofNat 0)) ((Int32.ofNat 3))).2.1)).1) ((q_letters m ((q_number m p ((Int32.ofNat 0)) ((Int32.ofNat 3))).2.1)).2) 13) then (bif zc2 .eq (q_number m ((q_letters m ((q_number m p ((Int32.ofNat 0)) ((Int32.ofNat 3))).2.1)).1) ((Int32.ofNat 0)) ((Int32.ofNat 31))).1 (-1) then ((l_readLock W ((q_number m p ((Int32.ofNat 0)) ((Int32.ofNat 3))).1) ((q_number m ((q_letters m ((q_number m p ((Int32.ofNat 0)) ((Int32.ofNat 3))).2.1)).1) ((Int32.ofNat 0)) ((Int32.ofNat 31))).1) 4 ((Int32.ofNat 0)) 0).1, (l_readLock W ((q_number m p ((Int32.ofNat 0)) ((Int32.ofNat 3))).1) ((q_number m ((q_letters m ((q_number m p ((Int32.ofNat 0)) ((Int32.ofNat 3))).2.1)).1) ((Int32.ofNat 0)) ((Int32.ofNat 31))).1) 4 ((Int32.ofNat 0)) 0).2, (q_number m ((q_letters m ((q_number m p ((Int32.ofNat 0)) ((Int32.ofNat 3))).2.1)).1) ((Int32.ofNat 0)) ((Int32.ofNat 31))).2.1, (q_number m ((q_letters m ((q_number m p ((Int32.ofNat 0)) ((Int32.ofNat 3))).2.1)).1) ((Int32.ofNat 0)) ((Int32.ofNat 31))).2.2) else ((l_readLock W ((q_number m p ((Int32.ofNat 0)) ((Int32.ofNat 3))).1) ((q_number m ((q_letters m ((q_number m p ((Int32.ofNat 0)) ((Int32.ofNat 3))).2.1)).1) ((Int32.ofNat 0)) ((Int32.ofNat 31))).1) 4 ((Int32.ofNat 1)) 0).1, (l_readLock W ((q_number m p ((Int32.ofNat 0)) ((Int32.ofNat 3))).1) ((q_number m ((q_letters m ((q_number m p ((Int32.ofNat 0)) ((Int32.ofNat 3))).2.1)).1) ((Int32.ofNat 0)) ((Int32.ofNat 31))).1) 4 ((Int32.ofNat 1)) 0).2, (q_number m ((q_letters m ((q_number m p ((Int32.ofNat 0)) ((Int32.ofNat 3))).2.1)).1) ((Int32.ofNat 0)) ((Int32.ofNat 31))).2.1, (q_number m ((q_letters m ((q_number m p ((Int32.ofNat 0)) ((Int32.ofNat 3))).2.1)).1) ((Int32.ofNat 0)) ((Int32.ofNat 31))).2.2)) else ((Int32.ofNat 0), W, (q_letters m ((q_number m p ((Int32.ofNat 0)) ((Int32.ofNat 3))).2.1)).1, (q_letters m ((q_number m p ((Int32.ofNat 0)) ((Int32.ofNat 3))).2.1)).2)) else ((Int32.ofNat 0), W, (q_number m p ((Int32.ofNat 0)) ((Int32.ofNat 3))).2.1, (q_number m p ((Int32.ofNat 0)) ((Int32.ofNat 3))).2.2))
theorem p_readLock {σ : Nat → Nat × (Nat → Int32)} {yy : (Nat → Nat → Int64) × Bool × Nat × Nat} {m : Nat → Nat → Int32} {W : Nat → Int32} {p b : Nat} {d : Nat} (hd : 4 ≤ d + 1) (hG : PG m) (hp : p ≤ pe m) : zEv σ (d + 1) 1855 0 [some (.ref 137), none, none, none, none] [] (zS1, zrow (TP m p b) 138 W, yy) (.inl (some (.int (q_readLock m W p).1))) (zS1, zrow (TP m ((q_readLock m W p).2.2.1) ((q_readLock m W p).2.2.2)) 138 ((q_readLock m W p).2.1), yy) := by
  refine zeP rfl rfl ?_
  refine zeKn (c := 0) rfl rfl rfl ?_
  refine zeKn (c := 3) rfl rfl rfl ?_
  refine zeCF rfl rfl rfl rfl rfl rfl (c_number (lo := (Int32.ofNat 0)) (hi := (Int32.ofNat 3)) (m := m) (W := W) (p := p) (b := b) hG hp) (by omega) ?_
  dsimp only [Option.toList, List.cons_append, List.nil_append]
  refine zeP rfl rfl ?_
  refine zeP rfl rfl ?_
  refine zeK (v := -1) rfl rfl rfl ?_
  refine zeB2 rfl rfl (fun h1 => ?_) (fun h1 => ?_)
  · refine zeP rfl rfl ?_
    refine zeCF rfl rfl rfl rfl rfl rfl (c_letters  (m := m) (W := W) (p := (q_number m p ((Int32.ofNat 0)) ((Int32.ofNat 3))).2.1) (b := (q_number m p ((Int32.ofNat 0)) ((Int32.ofNat 3))).2.2) hG (number_le hG hp).2.1) (by omega) ?_
    dsimp only [Option.toList, List.cons_append, List.nil_append]
    refine zeP rfl rfl ?_
    refine zeS rfl rfl rfl ?_
    refine zeCF rfl rfl rfl rfl rfl rfl (c_isWord (s := 13) (m := m) (W := W) (p := (q_letters m ((q_number m p ((Int32.ofNat 0)) ((Int32.ofNat 3))).2.1)).1) (b := (q_letters m ((q_number m p ((Int32.ofNat 0)) ((Int32.ofNat 3))).2.1)).2) hG (by decide) (letters_le hG (number_le (lo := Int32.ofNat 0) (hi := Int32.ofNat 3) hG hp).2.1).2 (by have := (letters_le hG (number_le (lo := Int32.ofNat 0) (hi := Int32.ofNat 3) hG hp).2.1).1; have := hG.2; omega)) (by omega) ?_
    dsimp only [Option.toList, List.cons_append, List.nil_append]
    refine zeB1 rfl rfl (fun h2 => ?_) (fun h2 => ?_)
    · refine zeP rfl rfl ?_
      refine zeKn (c := 0) rfl rfl rfl ?_
      refine zeKn (c := 31) rfl rfl rfl ?_
      refine zeCF rfl rfl rfl rfl rfl rfl (c_number (lo := (Int32.ofNat 0)) (hi := (Int32.ofNat 31)) (m := m) (W := W) (p := (q_letters m ((q_number m p ((Int32.ofNat 0)) ((Int32.ofNat 3))).2.1)).1) (b := (q_letters m ((q_number m p ((Int32.ofNat 0)) ((Int32.ofNat 3))).2.1)).2) hG (letters_le hG (number_le (lo := Int32.ofNat 0) (hi := Int32.ofNat 3) hG hp).2.1).1) (by omega) ?_
      dsimp only [Option.toList, List.cons_append, List.nil_append]
      refine zeP rfl rfl ?_
      refine zeP rfl rfl ?_
      refine zeK (v := -1) rfl rfl rfl ?_
      refine zeB2 rfl rfl (fun h3 => ?_) (fun h3 => ?_)
      · refine zeKn (c := 0) rfl rfl rfl ?_
        refine zeP rfl rfl ?_
        refine zeKn (c := 0) rfl rfl rfl ?_
        refine zeP rfl rfl ?_
        simp only [q_readLock, h1, h2, h3, cond_true, cond_false]
        exact w_readLock (l := (q_number m p ((Int32.ofNat 0)) ((Int32.ofNat 3))).1) (w := (q_number m ((q_letters m ((q_number m p ((Int32.ofNat 0)) ((Int32.ofNat 3))).2.1)).1) ((Int32.ofNat 0)) ((Int32.ofNat 31))).1) (m := m) (W := W) (p := (q_number m ((q_letters m ((q_number m p ((Int32.ofNat 0)) ((Int32.ofNat 3))).2.1)).1) ((Int32.ofNat 0)) ((Int32.ofNat 31))).2.1) (b := (q_number m ((q_letters m ((q_number m p ((Int32.ofNat 0)) ((Int32.ofNat 3))).2.1)).1) ((Int32.ofNat 0)) ((Int32.ofNat 31))).2.2) (by omega) ⟨(number_k (by omega) (by omega) (zne_t h1)).1, (number_k (by omega) (by omega) (zne_t h1)).2.1⟩ 4 ((Int32.ofNat 0)) (0)  (by omega) (by first | exact Or.inr rfl | exact Or.inl rfl)
      · refine zeKn (c := 1) rfl rfl rfl ?_
        refine zeP rfl rfl ?_
        refine zeP rfl rfl ?_
        refine zeKn (c := 0) rfl rfl rfl ?_
        refine zeP rfl rfl ?_
        simp only [q_readLock, h1, h2, h3, cond_true, cond_false]
        exact w_readLock (l := (q_number m p ((Int32.ofNat 0)) ((Int32.ofNat 3))).1) (w := (q_number m ((q_letters m ((q_number m p ((Int32.ofNat 0)) ((Int32.ofNat 3))).2.1)).1) ((Int32.ofNat 0)) ((Int32.ofNat 31))).1) (m := m) (W := W) (p := (q_number m ((q_letters m ((q_number m p ((Int32.ofNat 0)) ((Int32.ofNat 3))).2.1)).1) ((Int32.ofNat 0)) ((Int32.ofNat 31))).2.1) (b := (q_number m ((q_letters m ((q_number m p ((Int32.ofNat 0)) ((Int32.ofNat 3))).2.1)).1) ((Int32.ofNat 0)) ((Int32.ofNat 31))).2.2) (by omega) ⟨(number_k (by omega) (by omega) (zne_t h1)).1, (number_k (by omega) (by omega) (zne_t h1)).2.1⟩ 4 ((Int32.ofNat 1)) (0)  (by omega) (by first | exact Or.inr rfl | exact Or.inl rfl)
    · refine zeKn (c := 0) rfl rfl rfl ?_
      exact zeRe rfl rfl rfl rfl (by simp only [q_readLock, h1, h2, cond_true, cond_false] <;> rfl) (by simp only [q_readLock, h1, h2, cond_true, cond_false] <;> rfl)
  · refine zeKn (c := 0) rfl rfl rfl ?_
    exact zeRe rfl rfl rfl rfl (by simp only [q_readLock, h1, cond_true, cond_false] <;> rfl) (by simp only [q_readLock, h1, cond_true, cond_false] <;> rfl)
theorem c_readLock {σ : Nat → Nat × (Nat → Int32)} {yy : (Nat → Nat → Int64) × Bool × Nat × Nat} {m : Nat → Nat → Int32} {W : Nat → Int32} {p b : Nat} (hG : PG m) (hp : p ≤ pe m) : zF σ 4 1855 [.ref 137] (zS1, zrow (TP m p b) 138 W, yy) (.inl (some (.int (q_readLock m W p).1))) (zS1, zrow (TP m ((q_readLock m W p).2.2.1) ((q_readLock m W p).2.2.2)) 138 ((q_readLock m W p).2.1), yy) := by
  intro d hd
  obtain ⟨d, rfl⟩ : ∃ k, d = k + 1 := ⟨d - 1, by omega⟩
  exact p_readLock hd hG hp
noncomputable def l_readTrust (v : Int32) : Nat → Nat → (Nat → Int32) → Int32 × (Nat → Int32)
  | 0, l, W => (bif zc2 .eq v (-1) then ((Int32.ofNat 0), W) else ((Int32.ofNat 1), W))
  | n + 1, l, W => (bif zc2 .eq v (-1) then ((Int32.ofNat 0), W) else (l_readTrust v n ((l + 1)) ((upd W ((20 + l)) v))))
theorem w_readTrust {σ : Nat → Nat × (Nat → Int32)} {yy : (Nat → Nat → Int64) × Bool × Nat × Nat} {m : Nat → Nat → Int32} {p : Nat} {b : Nat} {v : Int32} {d : Nat} (hd : 1 ≤ d + 1) : ∀ (n : Nat) (l : Nat) (W : (Nat → Int32)), l + n = 4 → zEv σ (d + 1) 1856 10 [some (.ref 137), some (.int v), some (.int (Int32.ofNat l))] [] (zS1, zrow (TP m p b) 138 W, yy) (.inl (some (.int (l_readTrust v n l W).1))) (zS1, zrow (TP m p b) 138 ((l_readTrust v n l W).2), yy) := by
  intro n
  induction n with
  | zero =>
    intro l W hk
    refine zeP rfl rfl ?_
    refine zeKn (c := 4) rfl rfl rfl ?_
    refine zeT2 rfl rfl (zcge (by omega) (by omega) (by omega)) ?_
    refine zeP rfl rfl ?_
    refine zeK (v := -1) rfl rfl rfl ?_
    refine zeB2 rfl rfl (fun h1 => ?_) (fun h1 => ?_)
    · refine zeKn (c := 0) rfl rfl rfl ?_
      exact zeRe rfl rfl rfl rfl (by simp only [l_readTrust, h1, cond_true, cond_false] <;> rfl) (by simp only [l_readTrust, h1, cond_true, cond_false] <;> rfl)
    · refine zeKn (c := 1) rfl rfl rfl ?_
      refine zeP rfl rfl ?_
      exact zeRe rfl rfl rfl rfl (by simp only [l_readTrust, h1, cond_true, cond_false] <;> rfl) (by simp only [l_readTrust, h1, cond_true, cond_false] <;> rfl)
  | succ n ih =>
    intro l W hk
    refine zeP rfl rfl ?_
    refine zeKn (c := 4) rfl rfl rfl ?_
    refine zeF2 rfl rfl (zcge_f (by omega) (by omega) (by omega)) ?_
    refine zeP rfl rfl ?_
    refine zeK (v := -1) rfl rfl rfl ?_
    refine zeB2 rfl rfl (fun h1 => ?_) (fun h1 => ?_)
    · refine zeP rfl rfl ?_
      refine zeK (v := -1) rfl rfl rfl ?_
      refine zeT2 rfl rfl h1 ?_
      refine zeKn (c := 0) rfl rfl rfl ?_
      exact zeRe rfl rfl rfl rfl (by simp only [l_readTrust, h1, cond_true, cond_false] <;> rfl) (by simp only [l_readTrust, h1, cond_true, cond_false] <;> rfl)
    · refine zeP rfl rfl ?_
      refine zeGR rfl rfl zS137 rfl rfl ?_
      refine zeKn (c := 20) rfl rfl rfl ?_
      refine zeP rfl rfl ?_
      refine zeAdd rfl ?_
      refine zeP rfl rfl ?_
      refine zeWS (k := (20 + l)) rfl (by omega) ?_
      refine zeInc rfl rfl ?_
      refine zeP rfl rfl ?_
      simp only [l_readTrust, h1, cond_true, cond_false]
      exact ih ((l + 1)) ((upd W ((20 + l)) v)) (by omega) 
noncomputable def q_readTrust (m : Nat → Nat → Int32) (W : Nat → Int32) (p : Nat) : Int32 × (Nat → Int32) × Nat × Nat := ((l_readTrust ((q_number m p ((Int32.ofNat 0)) ((Int32.ofNat 15))).1) 4 0 W).1, (l_readTrust ((q_number m p ((Int32.ofNat 0)) ((Int32.ofNat 15))).1) 4 0 W).2, (q_number m p ((Int32.ofNat 0)) ((Int32.ofNat 15))).2.1, (q_number m p ((Int32.ofNat 0)) ((Int32.ofNat 15))).2.2)
theorem p_readTrust {σ : Nat → Nat × (Nat → Int32)} {yy : (Nat → Nat → Int64) × Bool × Nat × Nat} {m : Nat → Nat → Int32} {W : Nat → Int32} {p b : Nat} {d : Nat} (hd : 4 ≤ d + 1) (hG : PG m) (hp : p ≤ pe m) : zEv σ (d + 1) 1856 0 [some (.ref 137), none, none] [] (zS1, zrow (TP m p b) 138 W, yy) (.inl (some (.int (q_readTrust m W p).1))) (zS1, zrow (TP m ((q_readTrust m W p).2.2.1) ((q_readTrust m W p).2.2.2)) 138 ((q_readTrust m W p).2.1), yy) := by
  refine zeP rfl rfl ?_
  refine zeKn (c := 0) rfl rfl rfl ?_
  refine zeKn (c := 15) rfl rfl rfl ?_
  refine zeCF rfl rfl rfl rfl rfl rfl (c_number (lo := (Int32.ofNat 0)) (hi := (Int32.ofNat 15)) (m := m) (W := W) (p := p) (b := b) hG hp) (by omega) ?_
  dsimp only [Option.toList, List.cons_append, List.nil_append]
  refine zeP rfl rfl ?_
  refine zeKn (c := 0) rfl rfl rfl ?_
  refine zeP rfl rfl ?_
  simp only [q_readTrust, cond_true, cond_false]
  exact w_readTrust (v := (q_number m p ((Int32.ofNat 0)) ((Int32.ofNat 15))).1) (m := m) (p := (q_number m p ((Int32.ofNat 0)) ((Int32.ofNat 15))).2.1) (b := (q_number m p ((Int32.ofNat 0)) ((Int32.ofNat 15))).2.2) (by omega)  4 (0) W (by omega) 
theorem c_readTrust {σ : Nat → Nat × (Nat → Int32)} {yy : (Nat → Nat → Int64) × Bool × Nat × Nat} {m : Nat → Nat → Int32} {W : Nat → Int32} {p b : Nat} (hG : PG m) (hp : p ≤ pe m) : zF σ 4 1856 [.ref 137] (zS1, zrow (TP m p b) 138 W, yy) (.inl (some (.int (q_readTrust m W p).1))) (zS1, zrow (TP m ((q_readTrust m W p).2.2.1) ((q_readTrust m W p).2.2.2)) 138 ((q_readTrust m W p).2.1), yy) := by
  intro d hd
  obtain ⟨d, rfl⟩ : ∃ k, d = k + 1 := ⟨d - 1, by omega⟩
  exact p_readTrust hd hG hp
