theorem deeds_RB {m : Nat → Nat → Int32} {t : Nat} (hG : PG m) : ∀ (n L : Nat) (W : Nat → Int32) (p b : Nat), p ≤ pe m → RB m (l_deeds m t n L W p b) := by
  intro n
  induction n with
  | zero =>
    intro L W p b hp
    have h := readDeed_le (W := W) (t := t) (L := L) hG hp
    exact RB.mk h.1 h.2.1 (Or.inl rfl)
  | succ n ih =>
    intro L W p b hp
    have h := readDeed_le (W := W) (t := t) (L := L) hG hp
    have h2 := passes_le (c := 44) hG h.1
    unfold l_deeds
    exact RB.bif (RB.bif (ih _ _ _ _ h2.1) (RB.mk h2.1 h2.2 (Or.inr rfl))) (RB.mk h.1 h.2.1 (Or.inl rfl))
theorem rclears_RB {m : Nat → Nat → Int32} {p b t : Nat} (hG : PG m) (hp : p ≤ pe m) : ∀ (n k : Nat) (W : Nat → Int32), RB m (l_rclears m p b t n k W) := by
  intro n
  induction n with
  | zero => intro k W; exact deeds_RB hG _ _ _ _ _ hp
  | succ n ih => intro k W; exact ih _ _
theorem readThread_RB {m : Nat → Nat → Int32} {W : Nat → Int32} {p b : Nat} (hG : PG m) (hp : p ≤ pe m) (hb : b ≤ p) : RB m (q_readThread m W p b) := RB.bif (rclears_RB hG hp _ _ _) (RB.mk hp hb (Or.inl rfl))
theorem num_RB {m : Nat → Nat → Int32} {W : Nat → Int32} {p : Nat} {lo hi v : Int32} (hG : PG m) (hp : p ≤ pe m) (hv : v = 0 ∨ v = 1) : RB m (v, W, (q_number m p lo hi).2.1, (q_number m p lo hi).2.2) := by
  have h := number_le (lo := lo) (hi := hi) hG hp
  exact RB.mk h.2.1 (by rw [h.2.2]; exact h.1) hv
theorem readWordLine_RB {m : Nat → Nat → Int32} {W : Nat → Int32} {p : Nat} (hG : PG m) (hp : p ≤ pe m) : RB m (q_readWordLine m W p) := RB.bif (RB.bif (num_RB hG (number_le hG hp).2.1 (Or.inr rfl)) (num_RB hG (number_le hG hp).2.1 (Or.inl rfl))) (num_RB hG hp (Or.inl rfl))
theorem readLock_b {W : Nat → Int32} {l w : Int32} : ∀ (n : Nat) (is : Int32) (o : Nat), is = 0 ∨ is = 1 → (l_readLock W l w n is o).1 = 0 ∨ (l_readLock W l w n is o).1 = 1 := by
  intro n
  induction n with
  | zero =>
    intro is o h
    unfold l_readLock
    cases zc1 .eq is with
    | true => exact h
    | false => exact h
  | succ n ih =>
    intro is o h
    unfold l_readLock
    cases zc1 .eq is with
    | true => exact h
    | false =>
      rw [cond_false]
      cases zc2 .eq (Int32.ofNat o) l with
      | true => exact ih _ _ (Or.inr rfl)
      | false =>
        rw [cond_false]
        cases zc2 .eq (W (16 + o)) w with
        | true => exact ih _ _ (Or.inl rfl)
        | false => exact ih _ _ (Or.inr rfl)
theorem readLock_RB {m : Nat → Nat → Int32} {W : Nat → Int32} {p : Nat} (hG : PG m) (hp : p ≤ pe m) : RB m (q_readLock m W p) := by
  have h1 := number_le (lo := Int32.ofNat 0) (hi := Int32.ofNat 3) hG hp
  have h2 := letters_le hG h1.2.1
  unfold q_readLock
  refine RB.bif (RB.bif (RB.bif (num_RB hG h2.1 (readLock_b _ _ _ (Or.inl rfl))) (num_RB hG h2.1 (readLock_b _ _ _ (Or.inr rfl)))) (RB.mk h2.1 h2.2 (Or.inl rfl))) (num_RB hG hp (Or.inl rfl))
theorem readTrust_b {v : Int32} : ∀ (n l : Nat) (W : Nat → Int32), (l_readTrust v n l W).1 = 0 ∨ (l_readTrust v n l W).1 = 1 := by
  intro n
  induction n with
  | zero =>
    intro l W
    unfold l_readTrust
    cases zc2 .eq v (-1) with
    | true => exact Or.inl rfl
    | false => exact Or.inr rfl
  | succ n ih =>
    intro l W
    unfold l_readTrust
    cases zc2 .eq v (-1) with
    | true => exact Or.inl rfl
    | false => exact ih _ _
theorem readTrust_RB {m : Nat → Nat → Int32} {W : Nat → Int32} {p : Nat} (hG : PG m) (hp : p ≤ pe m) : RB m (q_readTrust m W p) := num_RB hG hp (readTrust_b _ _ _)
noncomputable def q_readLine (m : Nat → Nat → Int32) (W : Nat → Int32) (p : Nat) (b : Nat) : Int32 × (Nat → Int32) × Nat × Nat := (bif zc1 .eq (q_isWord m p b 21) then (bif zc1 .eq (q_isWord m p b 22) then (bif zc1 .eq (q_isWord m p b 23) then (bif zc1 .eq (q_isWord m p b 24) then (bif zc1 .eq (q_isWord m p b 25) then (bif zc1 .ne (q_isWord m p b 26) then (bif zc1 .eq (q_isWord m p b 26) then ((Int32.ofNat 1), (upd W 8 ((Int32.ofNat 0))), p, b) else ((Int32.ofNat 1), (upd W 8 ((Int32.ofNat 1))), p, b)) else (bif zc1 .eq (q_isWord m p b 27) then (bif zc2 .eq (q_termHere m p b) (-1) then ((Int32.ofNat 0), W, p, b) else (bif zc1 .eq (q_readTo m W p ((((q_termHere m p b)).toNatClampNeg)) ((q_leastOf ((((q_termHere m p b)).toNatClampNeg)))) ((q_mostOf ((((q_termHere m p b)).toNatClampNeg))))).1 then ((Int32.ofNat 0), (q_readTo m W p ((((q_termHere m p b)).toNatClampNeg)) ((q_leastOf ((((q_termHere m p b)).toNatClampNeg)))) ((q_mostOf ((((q_termHere m p b)).toNatClampNeg))))).2.1, (q_readTo m W p ((((q_termHere m p b)).toNatClampNeg)) ((q_leastOf ((((q_termHere m p b)).toNatClampNeg)))) ((q_mostOf ((((q_termHere m p b)).toNatClampNeg))))).2.2.1, (q_readTo m W p ((((q_termHere m p b)).toNatClampNeg)) ((q_leastOf ((((q_termHere m p b)).toNatClampNeg)))) ((q_mostOf ((((q_termHere m p b)).toNatClampNeg))))).2.2.2) else ((Int32.ofNat 1), (q_readTo m W p ((((q_termHere m p b)).toNatClampNeg)) ((q_leastOf ((((q_termHere m p b)).toNatClampNeg)))) ((q_mostOf ((((q_termHere m p b)).toNatClampNeg))))).2.1, (q_readTo m W p ((((q_termHere m p b)).toNatClampNeg)) ((q_leastOf ((((q_termHere m p b)).toNatClampNeg)))) ((q_mostOf ((((q_termHere m p b)).toNatClampNeg))))).2.2.1, (q_readTo m W p ((((q_termHere m p b)).toNatClampNeg)) ((q_leastOf ((((q_termHere m p b)).toNatClampNeg)))) ((q_mostOf ((((q_termHere m p b)).toNatClampNeg))))).2.2.2))) else (bif zc1 .eq (q_isWord m p b 26) then ((Int32.ofNat 1), (upd W 8 ((Int32.ofNat 0))), p, b) else ((Int32.ofNat 1), (upd W 8 ((Int32.ofNat 1))), p, b)))) else (bif zc1 .ne (q_threads W) then ((Int32.ofNat 0), W, p, b) else (bif zc1 .eq (q_readTo m W p 0 ((Int32.ofNat 1)) ((Int32.ofNat 8))).1 then ((Int32.ofNat 0), (q_readTo m W p 0 ((Int32.ofNat 1)) ((Int32.ofNat 8))).2.1, (q_readTo m W p 0 ((Int32.ofNat 1)) ((Int32.ofNat 8))).2.2.1, (q_readTo m W p 0 ((Int32.ofNat 1)) ((Int32.ofNat 8))).2.2.2) else ((Int32.ofNat 1), (q_readTo m W p 0 ((Int32.ofNat 1)) ((Int32.ofNat 8))).2.1, (q_readTo m W p 0 ((Int32.ofNat 1)) ((Int32.ofNat 8))).2.2.1, (q_readTo m W p 0 ((Int32.ofNat 1)) ((Int32.ofNat 8))).2.2.2)))) else ((q_readTrust m W p).1, (q_readTrust m W p).2.1, (q_readTrust m W p).2.2.1, (q_readTrust m W p).2.2.2)) else ((q_readLock m W p).1, (q_readLock m W p).2.1, (q_readLock m W p).2.2.1, (q_readLock m W p).2.2.2)) else ((q_readWordLine m W p).1, (q_readWordLine m W p).2.1, (q_readWordLine m W p).2.2.1, (q_readWordLine m W p).2.2.2)) else ((q_readThread m W p b).1, (q_readThread m W p b).2.1, (q_readThread m W p b).2.2.1, (q_readThread m W p b).2.2.2))
theorem p_readLine {σ : Nat → Nat × (Nat → Int32)} {yy : (Nat → Nat → Int64) × Bool × Nat × Nat} {m : Nat → Nat → Int32} {W : Nat → Int32} {p b : Nat} {d : Nat} (hd : 7 ≤ d + 1) (hG : PG m) (hp : p ≤ pe m) (hbp : b ≤ p) (h9 : W 9 = Int32.ofNat (nv W 9) ∧ nv W 9 ≤ 4) : zEv σ (d + 1) 1860 0 [some (.ref 137), none] [] (zS1, zrow (TP m p b) 138 W, yy) (.inl (some (.int (q_readLine m W p b).1))) (zS1, zrow (TP m ((q_readLine m W p b).2.2.1) ((q_readLine m W p b).2.2.2)) 138 ((q_readLine m W p b).2.1), yy) := by
  refine zeP rfl rfl ?_
  refine zeS rfl rfl rfl ?_
  refine zeCF rfl rfl rfl rfl rfl rfl (c_isWord (s := 21) (m := m) (W := W) (p := p) (b := b) hG (by decide) hbp (by have := hG.2; omega)) (by omega) ?_
  dsimp only [Option.toList, List.cons_append, List.nil_append]
  refine zeB1 rfl rfl (fun h1 => ?_) (fun h1 => ?_)
  · refine zeP rfl rfl ?_
    refine zeS rfl rfl rfl ?_
    refine zeCF rfl rfl rfl rfl rfl rfl (c_isWord (s := 22) (m := m) (W := W) (p := p) (b := b) hG (by decide) hbp (by have := hG.2; omega)) (by omega) ?_
    dsimp only [Option.toList, List.cons_append, List.nil_append]
    refine zeB1 rfl rfl (fun h2 => ?_) (fun h2 => ?_)
    · refine zeP rfl rfl ?_
      refine zeS rfl rfl rfl ?_
      refine zeCF rfl rfl rfl rfl rfl rfl (c_isWord (s := 23) (m := m) (W := W) (p := p) (b := b) hG (by decide) hbp (by have := hG.2; omega)) (by omega) ?_
      dsimp only [Option.toList, List.cons_append, List.nil_append]
      refine zeB1 rfl rfl (fun h3 => ?_) (fun h3 => ?_)
      · refine zeP rfl rfl ?_
        refine zeS rfl rfl rfl ?_
        refine zeCF rfl rfl rfl rfl rfl rfl (c_isWord (s := 24) (m := m) (W := W) (p := p) (b := b) hG (by decide) hbp (by have := hG.2; omega)) (by omega) ?_
        dsimp only [Option.toList, List.cons_append, List.nil_append]
        refine zeB1 rfl rfl (fun h4 => ?_) (fun h4 => ?_)
        · refine zeP rfl rfl ?_
          refine zeS rfl rfl rfl ?_
          refine zeCF rfl rfl rfl rfl rfl rfl (c_isWord (s := 25) (m := m) (W := W) (p := p) (b := b) hG (by decide) hbp (by have := hG.2; omega)) (by omega) ?_
          dsimp only [Option.toList, List.cons_append, List.nil_append]
          refine zeB1 rfl rfl (fun h5 => ?_) (fun h5 => ?_)
          · refine zeP rfl rfl ?_
            refine zeS rfl rfl rfl ?_
            refine zeCF rfl rfl rfl rfl rfl rfl (c_isWord (s := 26) (m := m) (W := W) (p := p) (b := b) hG (by decide) hbp (by have := hG.2; omega)) (by omega) ?_
            dsimp only [Option.toList, List.cons_append, List.nil_append]
            refine zeB1 rfl rfl (fun h6 => ?_) (fun h6 => ?_)
            · refine zeP rfl rfl ?_
              refine zeGR rfl rfl zS137 rfl rfl ?_
              refine zeKn (c := 8) rfl rfl rfl ?_
              refine zeP rfl rfl ?_
              refine zeS rfl rfl rfl ?_
              refine zeCF rfl rfl rfl rfl rfl rfl (c_isWord (s := 26) (m := m) (W := W) (p := p) (b := b) hG (by decide) hbp (by have := hG.2; omega)) (by omega) ?_
              dsimp only [Option.toList, List.cons_append, List.nil_append]
              refine zeB1 rfl rfl (fun h7 => ?_) (fun h7 => ?_)
              · refine zeKn (c := 0) rfl rfl rfl ?_
                refine zeWS (k := 8) rfl (by omega) ?_
                refine zeKn (c := 1) rfl rfl rfl ?_
                exact zeRe rfl rfl rfl rfl (by simp only [q_readLine, h1, h2, h3, h4, h5, h6, h7, cond_true, cond_false] <;> rfl) (by simp only [q_readLine, h1, h2, h3, h4, h5, h6, h7, cond_true, cond_false] <;> rfl)
              · refine zeKn (c := 1) rfl rfl rfl ?_
                refine zeP rfl rfl ?_
                refine zeWS (k := 8) rfl (by omega) ?_
                refine zeKn (c := 1) rfl rfl rfl ?_
                exact zeRe rfl rfl rfl rfl (by simp only [q_readLine, h1, h2, h3, h4, h5, h6, h7, cond_true, cond_false] <;> rfl) (by simp only [q_readLine, h1, h2, h3, h4, h5, h6, h7, cond_true, cond_false] <;> rfl)
            · refine zeP rfl rfl ?_
              refine zeS rfl rfl rfl ?_
              refine zeCF rfl rfl rfl rfl rfl rfl (c_isWord (s := 27) (m := m) (W := W) (p := p) (b := b) hG (by decide) hbp (by have := hG.2; omega)) (by omega) ?_
              dsimp only [Option.toList, List.cons_append, List.nil_append]
              refine zeB1 rfl rfl (fun h8 => ?_) (fun h8 => ?_)
              · refine zeP rfl rfl ?_
                refine zeCF rfl rfl rfl rfl rfl rfl (c_termHere  (m := m) (W := W) (p := p) (b := b) hG hbp (by have := hG.2; omega)) (by omega) ?_
                dsimp only [Option.toList, List.cons_append, List.nil_append]
                refine zeP rfl rfl ?_
                refine zeP rfl rfl ?_
                refine zeK (v := -1) rfl rfl rfl ?_
                refine zeB2 rfl rfl (fun h9 => ?_) (fun h9 => ?_)
                · refine zeKn (c := 0) rfl rfl rfl ?_
                  exact zeRe rfl rfl rfl rfl (by simp only [q_readLine, h1, h2, h3, h4, h5, h6, h8, h9, cond_true, cond_false] <;> rfl) (by simp only [q_readLine, h1, h2, h3, h4, h5, h6, h8, h9, cond_true, cond_false] <;> rfl)
                · have htm : (q_termHere m p b) = Int32.ofNat ((q_termHere m p b)).toNatClampNeg ∧ ((q_termHere m p b)).toNatClampNeg ≤ 7 := (⟨(termHere_k h9).1, (termHere_k h9).2.1⟩)
                  refine zeP rfl rfl ?_
                  refine zeKn (c := ((q_termHere m p b)).toNatClampNeg) rfl rfl htm.1 ?_
                  refine zeKn (c := ((q_termHere m p b)).toNatClampNeg) rfl rfl htm.1 ?_
                  refine zeCF rfl rfl rfl rfl rfl rfl (c_leastOf (m := TP m p b) (W := W) (x := (((q_termHere m p b)).toNatClampNeg)) ) (by omega) ?_
                  dsimp only [Option.toList, List.cons_append, List.nil_append]
                  refine zeKn (c := ((q_termHere m p b)).toNatClampNeg) rfl rfl htm.1 ?_
                  refine zeCF rfl rfl rfl rfl rfl rfl (c_mostOf (m := TP m p b) (W := W) (x := (((q_termHere m p b)).toNatClampNeg)) (by omega)) (by omega) ?_
                  dsimp only [Option.toList, List.cons_append, List.nil_append]
                  refine zeCF rfl rfl rfl rfl rfl rfl (c_readTo (k := (((q_termHere m p b)).toNatClampNeg)) (lo := (q_leastOf ((((q_termHere m p b)).toNatClampNeg)))) (hi := (q_mostOf ((((q_termHere m p b)).toNatClampNeg)))) (m := m) (W := W) (p := p) (b := b) hG hp (by omega)) (by omega) ?_
                  dsimp only [Option.toList, List.cons_append, List.nil_append]
                  refine zeB1 rfl rfl (fun h10 => ?_) (fun h10 => ?_)
                  · refine zeKn (c := 0) rfl rfl rfl ?_
                    exact zeRe rfl rfl rfl rfl (by simp only [q_readLine, h1, h2, h3, h4, h5, h6, h8, h9, h10, cond_true, cond_false] <;> rfl) (by simp only [q_readLine, h1, h2, h3, h4, h5, h6, h8, h9, h10, cond_true, cond_false] <;> rfl)
                  · refine zeKn (c := 1) rfl rfl rfl ?_
                    refine zeP rfl rfl ?_
                    exact zeRe rfl rfl rfl rfl (by simp only [q_readLine, h1, h2, h3, h4, h5, h6, h8, h9, h10, cond_true, cond_false] <;> rfl) (by simp only [q_readLine, h1, h2, h3, h4, h5, h6, h8, h9, h10, cond_true, cond_false] <;> rfl)
              · refine zeP rfl rfl ?_
                refine zeGR rfl rfl zS137 rfl rfl ?_
                refine zeKn (c := 8) rfl rfl rfl ?_
                refine zeP rfl rfl ?_
                refine zeS rfl rfl rfl ?_
                refine zeCF rfl rfl rfl rfl rfl rfl (c_isWord (s := 26) (m := m) (W := W) (p := p) (b := b) hG (by decide) hbp (by have := hG.2; omega)) (by omega) ?_
                dsimp only [Option.toList, List.cons_append, List.nil_append]
                refine zeB1 rfl rfl (fun h11 => ?_) (fun h11 => ?_)
                · refine zeKn (c := 0) rfl rfl rfl ?_
                  refine zeWS (k := 8) rfl (by omega) ?_
                  refine zeKn (c := 1) rfl rfl rfl ?_
                  exact zeRe rfl rfl rfl rfl (by simp only [q_readLine, h1, h2, h3, h4, h5, h6, h8, h11, cond_true, cond_false] <;> rfl) (by simp only [q_readLine, h1, h2, h3, h4, h5, h6, h8, h11, cond_true, cond_false] <;> rfl)
                · refine zeKn (c := 1) rfl rfl rfl ?_
                  refine zeP rfl rfl ?_
                  refine zeWS (k := 8) rfl (by omega) ?_
                  refine zeKn (c := 1) rfl rfl rfl ?_
                  exact zeRe rfl rfl rfl rfl (by simp only [q_readLine, h1, h2, h3, h4, h5, h6, h8, h11, cond_true, cond_false] <;> rfl) (by simp only [q_readLine, h1, h2, h3, h4, h5, h6, h8, h11, cond_true, cond_false] <;> rfl)
          · refine zeP rfl rfl ?_
            refine zeCF rfl rfl rfl rfl rfl rfl (c_threads (m := TP m p b) (W := W)  ) (by omega) ?_
            dsimp only [Option.toList, List.cons_append, List.nil_append]
            refine zeB1 rfl rfl (fun h12 => ?_) (fun h12 => ?_)
            · refine zeKn (c := 0) rfl rfl rfl ?_
              exact zeRe rfl rfl rfl rfl (by simp only [q_readLine, h1, h2, h3, h4, h5, h12, cond_true, cond_false] <;> rfl) (by simp only [q_readLine, h1, h2, h3, h4, h5, h12, cond_true, cond_false] <;> rfl)
            · refine zeP rfl rfl ?_
              refine zeKn (c := 0) rfl rfl rfl ?_
              refine zeKn (c := 1) rfl rfl rfl ?_
              refine zeKn (c := 8) rfl rfl rfl ?_
              refine zeCF rfl rfl rfl rfl rfl rfl (c_readTo (k := 0) (lo := (Int32.ofNat 1)) (hi := (Int32.ofNat 8)) (m := m) (W := W) (p := p) (b := b) hG hp (by omega)) (by omega) ?_
              dsimp only [Option.toList, List.cons_append, List.nil_append]
              refine zeB1 rfl rfl (fun h13 => ?_) (fun h13 => ?_)
              · refine zeKn (c := 0) rfl rfl rfl ?_
                exact zeRe rfl rfl rfl rfl (by simp only [q_readLine, h1, h2, h3, h4, h5, h12, h13, cond_true, cond_false] <;> rfl) (by simp only [q_readLine, h1, h2, h3, h4, h5, h12, h13, cond_true, cond_false] <;> rfl)
              · refine zeKn (c := 1) rfl rfl rfl ?_
                refine zeP rfl rfl ?_
                exact zeRe rfl rfl rfl rfl (by simp only [q_readLine, h1, h2, h3, h4, h5, h12, h13, cond_true, cond_false] <;> rfl) (by simp only [q_readLine, h1, h2, h3, h4, h5, h12, h13, cond_true, cond_false] <;> rfl)
        · refine zeP rfl rfl ?_
          refine zeCF rfl rfl rfl rfl rfl rfl (c_readTrust  (m := m) (W := W) (p := p) (b := b) hG hp) (by omega) ?_
          dsimp only [Option.toList, List.cons_append, List.nil_append]
          exact zeRe rfl rfl rfl (zretB rfl rfl (readTrust_RB hG hp).2.2) (by simp only [q_readLine, h1, h2, h3, h4, cond_true, cond_false] <;> rfl) (by simp only [q_readLine, h1, h2, h3, h4, cond_true, cond_false] <;> rfl)
      · refine zeP rfl rfl ?_
        refine zeCF rfl rfl rfl rfl rfl rfl (c_readLock  (m := m) (W := W) (p := p) (b := b) hG hp) (by omega) ?_
        dsimp only [Option.toList, List.cons_append, List.nil_append]
        exact zeRe rfl rfl rfl (zretB rfl rfl (readLock_RB hG hp).2.2) (by simp only [q_readLine, h1, h2, h3, cond_true, cond_false] <;> rfl) (by simp only [q_readLine, h1, h2, h3, cond_true, cond_false] <;> rfl)
    · refine zeP rfl rfl ?_
      refine zeCF rfl rfl rfl rfl rfl rfl (c_readWordLine  (m := m) (W := W) (p := p) (b := b) hG hp) (by omega) ?_
      dsimp only [Option.toList, List.cons_append, List.nil_append]
      exact zeRe rfl rfl rfl (zretB rfl rfl (readWordLine_RB hG hp).2.2) (by simp only [q_readLine, h1, h2, cond_true, cond_false] <;> rfl) (by simp only [q_readLine, h1, h2, cond_true, cond_false] <;> rfl)
  · refine zeP rfl rfl ?_
    refine zeCF rfl rfl rfl rfl rfl rfl (c_readThread  (m := m) (W := W) (p := p) (b := b) hG hp h9) (by omega) ?_
    dsimp only [Option.toList, List.cons_append, List.nil_append]
    exact zeRe rfl rfl rfl (zretB rfl rfl (readThread_RB hG hp hbp).2.2) (by simp only [q_readLine, h1, cond_true, cond_false] <;> rfl) (by simp only [q_readLine, h1, cond_true, cond_false] <;> rfl)
theorem c_readLine {σ : Nat → Nat × (Nat → Int32)} {yy : (Nat → Nat → Int64) × Bool × Nat × Nat} {m : Nat → Nat → Int32} {W : Nat → Int32} {p b : Nat} (hG : PG m) (hp : p ≤ pe m) (hbp : b ≤ p) (h9 : W 9 = Int32.ofNat (nv W 9) ∧ nv W 9 ≤ 4) : zF σ 7 1860 [.ref 137] (zS1, zrow (TP m p b) 138 W, yy) (.inl (some (.int (q_readLine m W p b).1))) (zS1, zrow (TP m ((q_readLine m W p b).2.2.1) ((q_readLine m W p b).2.2.2)) 138 ((q_readLine m W p b).2.1), yy) := by
  intro d hd
  obtain ⟨d, rfl⟩ : ∃ k, d = k + 1 := ⟨d - 1, by omega⟩
  exact p_readLine hd hG hp hbp h9
theorem readLine_RB {m : Nat → Nat → Int32} {W : Nat → Int32} {p b : Nat} (hG : PG m) (hp : p ≤ pe m) (hb : b ≤ p) : RB m (q_readLine m W p b) := by
  have h0 : ∀ V, RB m (Int32.ofNat 0, V, p, b) := fun V => RB.mk hp hb (Or.inl rfl)
  have h1 : ∀ V, RB m (Int32.ofNat 1, V, p, b) := fun V => RB.mk hp hb (Or.inr rfl)
  have hr : ∀ (V V' : Nat → Int32) (k : Nat) (lo hi v : Int32), v = 0 ∨ v = 1 → RB m (v, V', (q_readTo m V p k lo hi).2.2.1, (q_readTo m V p k lo hi).2.2.2) := fun V V' k lo hi v hv => RB.mk (readTo_le hG hp).1 (readTo_le hG hp).2.1 hv
  unfold q_readLine
  refine RB.bif (RB.bif (RB.bif (RB.bif (RB.bif ?_ ?_) ?_) ?_) ?_) ?_
  · refine RB.bif (RB.bif (h1 _) (h1 _)) (RB.bif (RB.bif (h0 _) (RB.bif ?_ ?_)) (RB.bif (h1 _) (h1 _)))
    · exact hr W _ _ _ _ _ (Or.inl rfl)
    · exact hr W _ _ _ _ _ (Or.inr rfl)
  · refine RB.bif (h0 _) (RB.bif ?_ ?_)
    · exact hr W _ _ _ _ _ (Or.inl rfl)
    · exact hr W _ _ _ _ _ (Or.inr rfl)
  · exact RB.eta (readTrust_RB hG hp)
  · exact RB.eta (readLock_RB hG hp)
  · exact RB.eta (readWordLine_RB hG hp)
  · exact RB.eta (readThread_RB hG hp hb)
