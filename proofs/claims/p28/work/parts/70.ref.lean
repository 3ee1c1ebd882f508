theorem zgt_le {a b : Nat} (ha : a < 2147483648) (hb : b < 2147483648) (h : zc2 .gt (Int32.ofNat a) (Int32.ofNat b) = false) : a ≤ b := by
  apply Nat.le_of_not_lt
  intro q
  rw [zcgt ha hb q] at h
  cases h
def crow (f g : Nat → Int32) : Nat → Int32 := fun k => if k < 788 then f k else g k
theorem c_cpF {σ : Nat → Nat × (Nat → Int32)} {yy : (Nat → Nat → Int64) × Bool × Nat × Nat} {m : Nat → Nat → Int32} {W : Nat → Int32} {b : Nat} (hb : b ≠ 138) (hB : zS1[b]? = some (10, 788, [])) : zF σ 0 1806 [.ref 138, .ref b] (zS1, zrow m 138 W, yy) (.inl none) (zS1, zrow (zrow m b (crow W (m b))) 138 W, yy) := by
  intro d _
  have h := zcp_all (σ := σ) (d := d) (m := zrow m 138 W) (y := yy) (a := 138) (b := b) (fun e => hb e.symm) rfl zS138 hB
  have e : zcpm (zrow m 138 W) 138 b 788 = zrow (zrow m b (crow W (m b))) 138 W := by
    funext i k
    unfold zcpm zrow crow
    by_cases h1 : i = b
    · subst h1
      by_cases h2 : k < 788
      · rw [if_pos ⟨rfl, h2⟩, if_pos rfl, if_neg hb, if_pos rfl, if_pos h2]
      · rw [if_neg (fun q => h2 q.2), if_neg hb, if_neg hb, if_pos rfl, if_neg h2]
    · rw [if_neg (fun q => h1 q.1)]
      by_cases h2 : i = 138
      · rw [if_pos h2, if_pos h2]
      · rw [if_neg h2, if_neg h2, if_neg h1]
  rw [e] at h
  exact h
theorem c_cpB {σ : Nat → Nat × (Nat → Int32)} {yy : (Nat → Nat → Int64) × Bool × Nat × Nat} {m : Nat → Nat → Int32} {W : Nat → Int32} {b : Nat} (hb : b ≠ 138) (hb2 : Nat.blt b 1000 = true) (hB : zS1[b]? = some (10, 788, [])) : zF σ 0 1806 [.ref b, .ref 138] (zS1, zrow m 138 W, yy) (.inl none) (zS1, zrow m 138 (crow (m b) W), yy) := by
  intro d _
  have h := zcp_all (σ := σ) (d := d) (m := zrow m 138 W) (y := yy) (a := b) (b := 138) hb hb2 hB zS138
  have e : zcpm (zrow m 138 W) b 138 788 = zrow m 138 (crow (m b) W) := by
    funext i k
    unfold zcpm zrow crow
    by_cases h1 : i = 138
    · subst h1
      by_cases h2 : k < 788
      · rw [if_pos ⟨rfl, h2⟩, if_neg hb, if_pos rfl, if_pos h2]
      · rw [if_neg (fun q => h2 q.2), if_pos rfl, if_pos rfl, if_neg h2]
    · rw [if_neg (fun q => h1 q.1), if_neg h1, if_neg h1]
  rw [e] at h
  exact h
def q_image (m : Nat → Nat → Int32) (W : Nat → Int32) : (Nat → Nat → Int32) := (zm2 ((zrow ((zm2 m 137 0 (Int32.ofNat 0))) 139 (crow W (((zm2 m 137 0 (Int32.ofNat 0))) 139)))) 137 4 (Int32.ofNat 1))
theorem p_image {σ : Nat → Nat × (Nat → Int32)} {yy : (Nat → Nat → Int64) × Bool × Nat × Nat} {m : Nat → Nat → Int32} {W : Nat → Int32} {d : Nat} (hd : 1 ≤ d + 1) : zEv σ (d + 1) 1807 0 [some (.ref 137)] [] (zS1, zrow m 138 W, yy) (.inl none) (zS1, zrow ((q_image m W)) 138 W, yy) := by
  refine zeP rfl rfl ?_
  refine zeKn (c := 0) rfl rfl rfl ?_
  refine zeFP rfl rfl rfl ?_
  refine zeP rfl rfl ?_
  refine zeGR rfl rfl zS137 rfl rfl ?_
  refine zeP rfl rfl ?_
  refine zeGR rfl rfl zS137 rfl rfl ?_
  refine zeCF rfl rfl rfl rfl rfl rfl (c_cpF (m := (zm2 m 137 0 (Int32.ofNat 0))) (W := W) (b := 139) (by decide) rfl) (by omega) ?_
  dsimp only [Option.toList, List.cons_append, List.nil_append]
  refine zeP rfl rfl ?_
  refine zeKn (c := 1) rfl rfl rfl ?_
  refine zeFB rfl rfl rfl (Or.inr rfl) ?_
  exact zeRe rfl rfl rfl rfl (by rfl) (by rfl)
theorem c_image {σ : Nat → Nat × (Nat → Int32)} {yy : (Nat → Nat → Int64) × Bool × Nat × Nat} {m : Nat → Nat → Int32} {W : Nat → Int32} : zF σ 1 1807 [.ref 137] (zS1, zrow m 138 W, yy) (.inl none) (zS1, zrow ((q_image m W)) 138 W, yy) := by
  intro d hd
  obtain ⟨d, rfl⟩ : ∃ k, d = k + 1 := ⟨d - 1, by omega⟩
  exact p_image hd 
def q_back (m : Nat → Nat → Int32) (W : Nat → Int32) : Int32 × (Nat → Int32) × (Nat → Nat → Int32) := (bif zc1 .ne (((zm2 m 137 0 (Int32.ofNat 0))) 137 4) then ((Int32.ofNat 1), (crow (((zm2 m 137 0 (Int32.ofNat 0))) 139) W), (zm2 m 137 0 (Int32.ofNat 0))) else ((Int32.ofNat 0), W, (zm2 m 137 0 (Int32.ofNat 0))))
theorem p_back {σ : Nat → Nat × (Nat → Int32)} {yy : (Nat → Nat → Int64) × Bool × Nat × Nat} {m : Nat → Nat → Int32} {W : Nat → Int32} {d : Nat} (hd : 1 ≤ d + 1) : zEv σ (d + 1) 1808 0 [some (.ref 137)] [] (zS1, zrow m 138 W, yy) (.inl (some (.int (q_back m W).1))) (zS1, zrow ((q_back m W).2.2) 138 ((q_back m W).2.1), yy) := by
  refine zeP rfl rfl ?_
  refine zeKn (c := 0) rfl rfl rfl ?_
  refine zeFP rfl rfl rfl ?_
  refine zeP rfl rfl ?_
  refine zeFI rfl rfl rfl rfl ?_
  refine zeB1 rfl rfl (fun h1 => ?_) (fun h1 => ?_)
  · refine zeP rfl rfl ?_
    refine zeGR rfl rfl zS137 rfl rfl ?_
    refine zeP rfl rfl ?_
    refine zeGR rfl rfl zS137 rfl rfl ?_
    refine zeCF rfl rfl rfl rfl rfl rfl (c_cpB (m := (zm2 m 137 0 (Int32.ofNat 0))) (W := W) (b := 139) (by decide) rfl rfl) (by omega) ?_
    dsimp only [Option.toList, List.cons_append, List.nil_append]
    refine zeKn (c := 1) rfl rfl rfl ?_
    exact zeRe rfl rfl rfl rfl (by simp only [q_back, h1, cond_true, cond_false] <;> rfl) (by simp only [q_back, h1, cond_true, cond_false] <;> rfl)
  · refine zeKn (c := 0) rfl rfl rfl ?_
    exact zeRe rfl rfl rfl rfl (by simp only [q_back, h1, cond_true, cond_false] <;> rfl) (by simp only [q_back, h1, cond_true, cond_false] <;> rfl)
theorem c_back {σ : Nat → Nat × (Nat → Int32)} {yy : (Nat → Nat → Int64) × Bool × Nat × Nat} {m : Nat → Nat → Int32} {W : Nat → Int32} : zF σ 1 1808 [.ref 137] (zS1, zrow m 138 W, yy) (.inl (some (.int (q_back m W).1))) (zS1, zrow ((q_back m W).2.2) 138 ((q_back m W).2.1), yy) := by
  intro d hd
  obtain ⟨d, rfl⟩ : ∃ k, d = k + 1 := ⟨d - 1, by omega⟩
  exact p_back hd 
def l_fell (W : Nat → Int32) (t : Int32) (y : Nat) : Nat → Int32 → Nat → Int32
  | 0, c, k => c
  | n + 1, c, k => (bif zc2 .eq t (-1) then (l_fell W t y n ((c + (q_of W k ((5 + y))))) ((k + 1))) else (bif zc2 .ne t (Int32.ofNat k) then (l_fell W t y n ((c + (Int32.ofNat 0))) ((k + 1))) else (l_fell W t y n ((c + (q_of W k ((5 + y))))) ((k + 1)))))
theorem w_fell {σ : Nat → Nat × (Nat → Int32)} {yy : (Nat → Nat → Int64) × Bool × Nat × Nat} {m : Nat → Nat → Int32} {W : Nat → Int32} {t : Int32} {y : Nat} {d : Nat} (hd : 3 ≤ d + 1) (hw : WG W) (hN4 : nv W 9 ≤ 4) (hy : y ≤ 4) : ∀ (n : Nat) (c : Int32) (k : Nat), k + n = nv W 9 → zEv σ (d + 1) 1875 66 [some (.ref 137), some (.int t), some (.int (Int32.ofNat y)), some (.int c), some (.int (Int32.ofNat k))] [] (zS1, zrow m 138 W, yy) (.inl (some (.int (l_fell W t y n c k)))) (zS1, zrow m 138 W, yy) := by
  intro n
  induction n with
  | zero =>
    intro c k hk
    refine zeP rfl rfl ?_
    refine zeP rfl rfl ?_
    refine zeCF rfl rfl rfl rfl rfl rfl (c_threads (m := m) (W := W)  ) (by omega) ?_
    dsimp only [Option.toList, List.cons_append, List.nil_append]
    rw [show q_threads W = Int32.ofNat (nv W 9) from hw.N]
    refine zeT2 rfl rfl (zcge (by omega) (by omega) (by omega)) ?_
    refine zeP rfl rfl ?_
    exact zeRe rfl rfl rfl rfl (by rfl) (by rfl)
  | succ n ih =>
    intro c k hk
    refine zeP rfl rfl ?_
    refine zeP rfl rfl ?_
    refine zeCF rfl rfl rfl rfl rfl rfl (c_threads (m := m) (W := W)  ) (by omega) ?_
    dsimp only [Option.toList, List.cons_append, List.nil_append]
    rw [show q_threads W = Int32.ofNat (nv W 9) from hw.N]
    refine zeF2 rfl rfl (zcge_f (by omega) (by omega) (by omega)) ?_
    refine zeP rfl rfl ?_
    refine zeP rfl rfl ?_
    refine zeK (v := -1) rfl rfl rfl ?_
    refine zeB2 rfl rfl (fun h1 => ?_) (fun h1 => ?_)
    · refine zeP rfl rfl ?_
      refine zeP rfl rfl ?_
      refine zeKn (c := 5) rfl rfl rfl ?_
      refine zeP rfl rfl ?_
      refine zeAdd rfl ?_
      refine zeCF rfl rfl rfl rfl rfl rfl (c_of (m := m) (W := W) (t := k) (k := (5 + y)) (by first | assumption | omega)) (by omega) ?_
      dsimp only [Option.toList, List.cons_append, List.nil_append]
      refine zeP rfl rfl ?_
      refine zeP rfl rfl ?_
      refine zeP rfl rfl ?_
      refine zeInc rfl rfl ?_
      refine zeP rfl rfl ?_
      simp only [l_fell, h1, cond_true, cond_false]
      exact ih ((c + (q_of W k ((5 + y))))) ((k + 1))   (by omega) 
    · refine zeP rfl rfl ?_
      refine zeP rfl rfl ?_
      refine zeB2 rfl rfl (fun h2 => ?_) (fun h2 => ?_)
      · refine zeKn (c := 0) rfl rfl rfl ?_
        refine zeP rfl rfl ?_
        refine zeP rfl rfl ?_
        refine zeInc rfl rfl ?_
        refine zeP rfl rfl ?_
        simp only [l_fell, h1, h2, cond_true, cond_false]
        exact ih ((c + (Int32.ofNat 0))) ((k + 1))   (by omega) 
      · refine zeP rfl rfl ?_
        refine zeP rfl rfl ?_
        refine zeKn (c := 5) rfl rfl rfl ?_
        refine zeP rfl rfl ?_
        refine zeAdd rfl ?_
        refine zeCF rfl rfl rfl rfl rfl rfl (c_of (m := m) (W := W) (t := k) (k := (5 + y)) (by first | assumption | omega)) (by omega) ?_
        dsimp only [Option.toList, List.cons_append, List.nil_append]
        refine zeP rfl rfl ?_
        refine zeP rfl rfl ?_
        refine zeP rfl rfl ?_
        refine zeInc rfl rfl ?_
        refine zeP rfl rfl ?_
        simp only [l_fell, h1, h2, cond_true, cond_false]
        exact ih ((c + (q_of W k ((5 + y))))) ((k + 1))   (by omega) 
def q_fell (m : Nat → Nat → Int32) (W : Nat → Int32) (t : Int32) (y : Int32) : Int32 × (Nat → Nat → Int32) := (bif zc2 .eq t (-1) then (bif zc1 .ne (q_in y ((Int32.ofNat 0)) ((Int32.ofNat 4))) then ((l_fell W t ((y.toNatClampNeg)) ((nv W 9)) ((Int32.ofNat 0)) 0), (zm2 m 137 0 (Int32.ofNat 0))) else ((Int32.ofNat 0), (q_thr1 ((zm2 m 137 0 (Int32.ofNat 0))) 2).2)) else (bif zc1 .ne (q_in t ((Int32.ofNat 0)) (((q_threads W) - (Int32.ofNat 1)))) then (bif zc1 .ne (q_in y ((Int32.ofNat 0)) ((Int32.ofNat 4))) then ((l_fell W t ((y.toNatClampNeg)) ((nv W 9)) ((Int32.ofNat 0)) 0), (zm2 m 137 0 (Int32.ofNat 0))) else ((Int32.ofNat 0), (q_thr1 ((zm2 m 137 0 (Int32.ofNat 0))) 2).2)) else ((Int32.ofNat 0), (q_thr1 ((zm2 m 137 0 (Int32.ofNat 0))) 1).2)))
theorem p_fell {σ : Nat → Nat × (Nat → Int32)} {yy : (Nat → Nat → Int64) × Bool × Nat × Nat} {m : Nat → Nat → Int32} {W : Nat → Int32} {t : Int32} {y : Int32} {d : Nat} (hd : 3 ≤ d + 1) (hw : WG W) : zEv σ (d + 1) 1875 0 [some (.ref 137), some (.int t), some (.int y), none, none] [] (zS1, zrow m 138 W, yy) (.inl (some (.int (q_fell m W t y).1))) (zS1, zrow ((q_fell m W t y).2) 138 W, yy) := by
  refine zeP rfl rfl ?_
  refine zeKn (c := 0) rfl rfl rfl ?_
  refine zeFP rfl rfl rfl ?_
  refine zeP rfl rfl ?_
  refine zeP rfl rfl ?_
  refine zeK (v := -1) rfl rfl rfl ?_
  refine zeB2 rfl rfl (fun h1 => ?_) (fun h1 => ?_)
  · refine zeKn (c := 0) rfl rfl rfl ?_
    refine zeKn (c := 1) rfl rfl rfl ?_
    refine zeCF rfl rfl rfl rfl rfl rfl (c_thr0 (m := (zm2 m 137 0 (Int32.ofNat 0))) (W := W) (c := 1) ) (by omega) ?_
    dsimp only [Option.toList, List.cons_append, List.nil_append]
    refine zeF1 rfl rfl (show zc1 .ne (Int32.ofNat 0) = false by decide) ?_
    refine zeP rfl rfl ?_
    refine zeP rfl rfl ?_
    refine zeKn (c := 0) rfl rfl rfl ?_
    refine zeKn (c := 4) rfl rfl rfl ?_
    refine zeCF rfl rfl rfl rfl rfl rfl (c_in (m := (zm2 m 137 0 (Int32.ofNat 0))) (W := W) (v := y) (lo := (Int32.ofNat 0)) (hi := (Int32.ofNat 4)) ) (by omega) ?_
    dsimp only [Option.toList, List.cons_append, List.nil_append]
    refine zeB1 rfl rfl (fun h2 => ?_) (fun h2 => ?_)
    · refine zeKn (c := 0) rfl rfl rfl ?_
      refine zeKn (c := 2) rfl rfl rfl ?_
      refine zeCF rfl rfl rfl rfl rfl rfl (c_thr0 (m := (zm2 m 137 0 (Int32.ofNat 0))) (W := W) (c := 2) ) (by omega) ?_
      dsimp only [Option.toList, List.cons_append, List.nil_append]
      refine zeT1 rfl rfl (show zc1 .eq (Int32.ofNat 0) = true by decide) ?_
      have cy : y = Int32.ofNat y.toNatClampNeg ∧ (0 ≤ y.toNatClampNeg ∧ y.toNatClampNeg ≤ 4) := (in_1 (by omega) (by omega) (by assumption))
      refine zeKn (c := 0) rfl rfl rfl ?_
      refine zeP rfl rfl ?_
      refine zeKn (c := 0) rfl rfl rfl ?_
      refine zeP rfl rfl ?_
      simp only [q_fell, h1, h2, cond_true, cond_false]
      have ez := w_fell (t := t) (y := (y.toNatClampNeg)) (W := W) (m := (zm2 m 137 0 (Int32.ofNat 0))) (σ := σ) (yy := yy) (d := d) (by omega) hw hw.N4 cy.2.2 ((nv W 9)) ((Int32.ofNat 0)) (0)   (by omega) 
      rw [← cy.1] at ez
      exact ez
    · refine zeKn (c := 1) rfl rfl rfl ?_
      refine zeP rfl rfl ?_
      refine zeKn (c := 2) rfl rfl rfl ?_
      refine zeCF rfl rfl rfl rfl rfl rfl (c_thr1 (m := (zm2 m 137 0 (Int32.ofNat 0))) (W := W) (c := 2) ) (by omega) ?_
      dsimp only [Option.toList, List.cons_append, List.nil_append]
      refine zeF1 rfl rfl (show zc1 .eq (Int32.ofNat 1) = false by decide) ?_
      refine zeKn (c := 0) rfl rfl rfl ?_
      exact zeRe rfl rfl rfl rfl (by simp only [q_fell, h1, h2, cond_true, cond_false] <;> rfl) (by simp only [q_fell, h1, h2, cond_true, cond_false] <;> rfl)
  · refine zeP rfl rfl ?_
    refine zeKn (c := 0) rfl rfl rfl ?_
    refine zeP rfl rfl ?_
    refine zeCF rfl rfl rfl rfl rfl rfl (c_threads (m := (zm2 m 137 0 (Int32.ofNat 0))) (W := W)  ) (by omega) ?_
    dsimp only [Option.toList, List.cons_append, List.nil_append]
    refine zeKn (c := 1) rfl rfl rfl ?_
    refine zeP rfl rfl ?_
    refine zeCF rfl rfl rfl rfl rfl rfl (c_in (m := (zm2 m 137 0 (Int32.ofNat 0))) (W := W) (v := t) (lo := (Int32.ofNat 0)) (hi := ((q_threads W) - (Int32.ofNat 1))) ) (by omega) ?_
    dsimp only [Option.toList, List.cons_append, List.nil_append]
    refine zeB1 rfl rfl (fun h3 => ?_) (fun h3 => ?_)
    · refine zeKn (c := 0) rfl rfl rfl ?_
      refine zeKn (c := 1) rfl rfl rfl ?_
      refine zeCF rfl rfl rfl rfl rfl rfl (c_thr0 (m := (zm2 m 137 0 (Int32.ofNat 0))) (W := W) (c := 1) ) (by omega) ?_
      dsimp only [Option.toList, List.cons_append, List.nil_append]
      refine zeF1 rfl rfl (show zc1 .ne (Int32.ofNat 0) = false by decide) ?_
      refine zeP rfl rfl ?_
      refine zeP rfl rfl ?_
      refine zeKn (c := 0) rfl rfl rfl ?_
      refine zeKn (c := 4) rfl rfl rfl ?_
      refine zeCF rfl rfl rfl rfl rfl rfl (c_in (m := (zm2 m 137 0 (Int32.ofNat 0))) (W := W) (v := y) (lo := (Int32.ofNat 0)) (hi := (Int32.ofNat 4)) ) (by omega) ?_
      dsimp only [Option.toList, List.cons_append, List.nil_append]
      refine zeB1 rfl rfl (fun h4 => ?_) (fun h4 => ?_)
      · refine zeKn (c := 0) rfl rfl rfl ?_
        refine zeKn (c := 2) rfl rfl rfl ?_
        refine zeCF rfl rfl rfl rfl rfl rfl (c_thr0 (m := (zm2 m 137 0 (Int32.ofNat 0))) (W := W) (c := 2) ) (by omega) ?_
        dsimp only [Option.toList, List.cons_append, List.nil_append]
        refine zeT1 rfl rfl (show zc1 .eq (Int32.ofNat 0) = true by decide) ?_
        have cy : y = Int32.ofNat y.toNatClampNeg ∧ (0 ≤ y.toNatClampNeg ∧ y.toNatClampNeg ≤ 4) := (in_1 (by omega) (by omega) (by assumption))
        refine zeKn (c := 0) rfl rfl rfl ?_
        refine zeP rfl rfl ?_
        refine zeKn (c := 0) rfl rfl rfl ?_
        refine zeP rfl rfl ?_
        simp only [q_fell, h1, h3, h4, cond_true, cond_false]
        have ez := w_fell (t := t) (y := (y.toNatClampNeg)) (W := W) (m := (zm2 m 137 0 (Int32.ofNat 0))) (σ := σ) (yy := yy) (d := d) (by omega) hw hw.N4 cy.2.2 ((nv W 9)) ((Int32.ofNat 0)) (0)   (by omega) 
        rw [← cy.1] at ez
        exact ez
      · refine zeKn (c := 1) rfl rfl rfl ?_
        refine zeP rfl rfl ?_
        refine zeKn (c := 2) rfl rfl rfl ?_
        refine zeCF rfl rfl rfl rfl rfl rfl (c_thr1 (m := (zm2 m 137 0 (Int32.ofNat 0))) (W := W) (c := 2) ) (by omega) ?_
        dsimp only [Option.toList, List.cons_append, List.nil_append]
        refine zeF1 rfl rfl (show zc1 .eq (Int32.ofNat 1) = false by decide) ?_
        refine zeKn (c := 0) rfl rfl rfl ?_
        exact zeRe rfl rfl rfl rfl (by simp only [q_fell, h1, h3, h4, cond_true, cond_false] <;> rfl) (by simp only [q_fell, h1, h3, h4, cond_true, cond_false] <;> rfl)
    · refine zeKn (c := 1) rfl rfl rfl ?_
      refine zeP rfl rfl ?_
      refine zeKn (c := 1) rfl rfl rfl ?_
      refine zeCF rfl rfl rfl rfl rfl rfl (c_thr1 (m := (zm2 m 137 0 (Int32.ofNat 0))) (W := W) (c := 1) ) (by omega) ?_
      dsimp only [Option.toList, List.cons_append, List.nil_append]
      refine zeT1 rfl rfl (show zc1 .ne (Int32.ofNat 1) = true by decide) ?_
      refine zeKn (c := 0) rfl rfl rfl ?_
      exact zeRe rfl rfl rfl rfl (by simp only [q_fell, h1, h3, cond_true, cond_false] <;> rfl) (by simp only [q_fell, h1, h3, cond_true, cond_false] <;> rfl)
theorem c_fell {σ : Nat → Nat × (Nat → Int32)} {yy : (Nat → Nat → Int64) × Bool × Nat × Nat} {m : Nat → Nat → Int32} {W : Nat → Int32} {t : Int32} {y : Int32} (hw : WG W) : zF σ 3 1875 [.ref 137, .int t, .int y] (zS1, zrow m 138 W, yy) (.inl (some (.int (q_fell m W t y).1))) (zS1, zrow ((q_fell m W t y).2) 138 W, yy) := by
  intro d hd
  obtain ⟨d, rfl⟩ : ∃ k, d = k + 1 := ⟨d - 1, by omega⟩
  exact p_fell hd hw
def q_leastOf (x : Nat) : Int32 := (bif zc2 .eq (Int32.ofNat x) (Int32.ofNat 4) then (Int32.ofNat 0) else (bif zc2 .eq (Int32.ofNat x) (Int32.ofNat 5) then (Int32.ofNat 0) else (bif zc2 .eq (Int32.ofNat x) (Int32.ofNat 6) then (Int32.ofNat 0) else (bif zc2 .ne (Int32.ofNat x) (Int32.ofNat 8) then (Int32.ofNat 1) else (Int32.ofNat 0)))))
theorem p_leastOf {σ : Nat → Nat × (Nat → Int32)} {yy : (Nat → Nat → Int64) × Bool × Nat × Nat} {m : Nat → Nat → Int32} {W : Nat → Int32} {x : Nat} {d : Nat} (hd : 1 ≤ d + 1) : zEv σ (d + 1) 1857 0 [some (.int (Int32.ofNat x))] [] (zS1, zrow m 138 W, yy) (.inl (some (.int (q_leastOf x)))) (zS1, zrow m 138 W, yy) := by
  refine zeP rfl rfl ?_
  refine zeKn (c := 4) rfl rfl rfl ?_
  refine zeB2 rfl rfl (fun h1 => ?_) (fun h1 => ?_)
  · refine zeKn (c := 0) rfl rfl rfl ?_
    refine zeP rfl rfl ?_
    exact zeRe rfl rfl rfl rfl (by simp only [q_leastOf, h1, cond_true, cond_false] <;> rfl) (by simp only [q_leastOf, h1, cond_true, cond_false] <;> rfl)
  · refine zeP rfl rfl ?_
    refine zeKn (c := 5) rfl rfl rfl ?_
    refine zeB2 rfl rfl (fun h2 => ?_) (fun h2 => ?_)
    · refine zeKn (c := 0) rfl rfl rfl ?_
      refine zeP rfl rfl ?_
      exact zeRe rfl rfl rfl rfl (by simp only [q_leastOf, h1, h2, cond_true, cond_false] <;> rfl) (by simp only [q_leastOf, h1, h2, cond_true, cond_false] <;> rfl)
    · refine zeP rfl rfl ?_
      refine zeKn (c := 6) rfl rfl rfl ?_
      refine zeB2 rfl rfl (fun h3 => ?_) (fun h3 => ?_)
      · refine zeKn (c := 0) rfl rfl rfl ?_
        refine zeP rfl rfl ?_
        exact zeRe rfl rfl rfl rfl (by simp only [q_leastOf, h1, h2, h3, cond_true, cond_false] <;> rfl) (by simp only [q_leastOf, h1, h2, h3, cond_true, cond_false] <;> rfl)
      · refine zeP rfl rfl ?_
        refine zeKn (c := 8) rfl rfl rfl ?_
        refine zeB2 rfl rfl (fun h4 => ?_) (fun h4 => ?_)
        · refine zeKn (c := 1) rfl rfl rfl ?_
          exact zeRe rfl rfl rfl rfl (by simp only [q_leastOf, h1, h2, h3, h4, cond_true, cond_false] <;> rfl) (by simp only [q_leastOf, h1, h2, h3, h4, cond_true, cond_false] <;> rfl)
        · refine zeKn (c := 0) rfl rfl rfl ?_
          refine zeP rfl rfl ?_
          exact zeRe rfl rfl rfl rfl (by simp only [q_leastOf, h1, h2, h3, h4, cond_true, cond_false] <;> rfl) (by simp only [q_leastOf, h1, h2, h3, h4, cond_true, cond_false] <;> rfl)
theorem c_leastOf {σ : Nat → Nat × (Nat → Int32)} {yy : (Nat → Nat → Int64) × Bool × Nat × Nat} {m : Nat → Nat → Int32} {W : Nat → Int32} {x : Nat} : zF σ 1 1857 [.int (Int32.ofNat x)] (zS1, zrow m 138 W, yy) (.inl (some (.int (q_leastOf x)))) (zS1, zrow m 138 W, yy) := by
  intro d hd
  obtain ⟨d, rfl⟩ : ∃ k, d = k + 1 := ⟨d - 1, by omega⟩
  exact p_leastOf hd 
def q_mostOf (x : Nat) : Int32 := (bif Nat.beq x 0 then (Int32.ofNat 9) else (bif Nat.beq x 1 then (Int32.ofNat 9) else (bif Nat.beq x 2 then (Int32.ofNat 4) else (bif Nat.beq x 3 then (Int32.ofNat 8) else (bif Nat.beq x 4 then (Int32.ofNat 16) else (bif Nat.beq x 5 then (Int32.ofNat 9) else (bif Nat.beq x 6 then (Int32.ofNat 15) else (bif Nat.beq x 7 then (Int32.ofNat 9) else (Int32.ofNat 1)))))))))
theorem p_mostOf {σ : Nat → Nat × (Nat → Int32)} {yy : (Nat → Nat → Int64) × Bool × Nat × Nat} {m : Nat → Nat → Int32} {W : Nat → Int32} {x : Nat} {d : Nat} (hd : 1 ≤ d + 1) (hx : x ≤ 8) : zEv σ (d + 1) 1858 0 [some (.int (Int32.ofNat x))] [] (zS1, zrow m 138 W, yy) (.inl (some (.int (q_mostOf x)))) (zS1, zrow m 138 W, yy) := by
  refine zeP rfl rfl ?_
  cases h1 : Nat.beq x 0 with
  | true =>
    refine zeSw (K := 0) rfl (by rw [Nat.eq_of_beq_eq_true h1]) rfl ?_
    refine zeKn (c := 9) rfl rfl rfl ?_
    exact zeRe rfl rfl rfl rfl (by simp only [q_mostOf, h1, cond_true, cond_false] <;> rfl) (by simp only [q_mostOf, h1, cond_true, cond_false] <;> rfl)
  | false =>
    cases h2 : Nat.beq x 1 with
    | true =>
      refine zeSw (K := 1) rfl (by rw [Nat.eq_of_beq_eq_true h2]) rfl ?_
      refine zeKn (c := 9) rfl rfl rfl ?_
      exact zeRe rfl rfl rfl rfl (by simp only [q_mostOf, h1, h2, cond_true, cond_false] <;> rfl) (by simp only [q_mostOf, h1, h2, cond_true, cond_false] <;> rfl)
    | false =>
      cases h3 : Nat.beq x 2 with
      | true =>
        refine zeSw (K := 2) rfl (by rw [Nat.eq_of_beq_eq_true h3]) rfl ?_
        refine zeKn (c := 4) rfl rfl rfl ?_
        exact zeRe rfl rfl rfl rfl (by simp only [q_mostOf, h1, h2, h3, cond_true, cond_false] <;> rfl) (by simp only [q_mostOf, h1, h2, h3, cond_true, cond_false] <;> rfl)
      | false =>
        cases h4 : Nat.beq x 3 with
        | true =>
          refine zeSw (K := 3) rfl (by rw [Nat.eq_of_beq_eq_true h4]) rfl ?_
          refine zeKn (c := 8) rfl rfl rfl ?_
          exact zeRe rfl rfl rfl rfl (by simp only [q_mostOf, h1, h2, h3, h4, cond_true, cond_false] <;> rfl) (by simp only [q_mostOf, h1, h2, h3, h4, cond_true, cond_false] <;> rfl)
        | false =>
          cases h5 : Nat.beq x 4 with
          | true =>
            refine zeSw (K := 4) rfl (by rw [Nat.eq_of_beq_eq_true h5]) rfl ?_
            refine zeKn (c := 16) rfl rfl rfl ?_
            exact zeRe rfl rfl rfl rfl (by simp only [q_mostOf, h1, h2, h3, h4, h5, cond_true, cond_false] <;> rfl) (by simp only [q_mostOf, h1, h2, h3, h4, h5, cond_true, cond_false] <;> rfl)
          | false =>
            cases h6 : Nat.beq x 5 with
            | true =>
              refine zeSw (K := 5) rfl (by rw [Nat.eq_of_beq_eq_true h6]) rfl ?_
              refine zeKn (c := 9) rfl rfl rfl ?_
              exact zeRe rfl rfl rfl rfl (by simp only [q_mostOf, h1, h2, h3, h4, h5, h6, cond_true, cond_false] <;> rfl) (by simp only [q_mostOf, h1, h2, h3, h4, h5, h6, cond_true, cond_false] <;> rfl)
            | false =>
              cases h7 : Nat.beq x 6 with
              | true =>
                refine zeSw (K := 6) rfl (by rw [Nat.eq_of_beq_eq_true h7]) rfl ?_
                refine zeKn (c := 15) rfl rfl rfl ?_
                exact zeRe rfl rfl rfl rfl (by simp only [q_mostOf, h1, h2, h3, h4, h5, h6, h7, cond_true, cond_false] <;> rfl) (by simp only [q_mostOf, h1, h2, h3, h4, h5, h6, h7, cond_true, cond_false] <;> rfl)
              | false =>
                cases h8 : Nat.beq x 7 with
                | true =>
                  refine zeSw (K := 7) rfl (by rw [Nat.eq_of_beq_eq_true h8]) rfl ?_
                  refine zeKn (c := 9) rfl rfl rfl ?_
                  exact zeRe rfl rfl rfl rfl (by simp only [q_mostOf, h1, h2, h3, h4, h5, h6, h7, h8, cond_true, cond_false] <;> rfl) (by simp only [q_mostOf, h1, h2, h3, h4, h5, h6, h7, h8, cond_true, cond_false] <;> rfl)
                | false =>
                  have hB : x = 8 := by
                    have e0 := Nat.ne_of_beq_eq_false h1
                    have e1 := Nat.ne_of_beq_eq_false h2
                    have e2 := Nat.ne_of_beq_eq_false h3
                    have e3 := Nat.ne_of_beq_eq_false h4
                    have e4 := Nat.ne_of_beq_eq_false h5
                    have e5 := Nat.ne_of_beq_eq_false h6
                    have e6 := Nat.ne_of_beq_eq_false h7
                    have e7 := Nat.ne_of_beq_eq_false h8
                    have eB := hx
                    omega
                  refine zeSw (K := 8) rfl (by rw [hB]) rfl ?_
                  refine zeKn (c := 1) rfl rfl rfl ?_
                  exact zeRe rfl rfl rfl rfl (by simp only [q_mostOf, h1, h2, h3, h4, h5, h6, h7, h8, cond_true, cond_false] <;> rfl) (by simp only [q_mostOf, h1, h2, h3, h4, h5, h6, h7, h8, cond_true, cond_false] <;> rfl)
theorem c_mostOf {σ : Nat → Nat × (Nat → Int32)} {yy : (Nat → Nat → Int64) × Bool × Nat × Nat} {m : Nat → Nat → Int32} {W : Nat → Int32} {x : Nat} (hx : x ≤ 8) : zF σ 1 1858 [.int (Int32.ofNat x)] (zS1, zrow m 138 W, yy) (.inl (some (.int (q_mostOf x)))) (zS1, zrow m 138 W, yy) := by
  intro d hd
  obtain ⟨d, rfl⟩ : ∃ k, d = k + 1 := ⟨d - 1, by omega⟩
  exact p_mostOf hd hx
def q_tune (m : Nat → Nat → Int32) (W : Nat → Int32) (x : Int32) (n : Int32) : Int32 × (Nat → Int32) × (Nat → Nat → Int32) := (bif zc1 .ne (q_in x ((Int32.ofNat 1)) ((Int32.ofNat 8))) then (bif zc1 .ne (q_in n ((q_leastOf ((x.toNatClampNeg)))) ((q_mostOf ((x.toNatClampNeg))))) then ((W (x.toNatClampNeg)), (upd W (x.toNatClampNeg) n), (zm2 m 137 0 (Int32.ofNat 0))) else ((Int32.ofNat 0), W, (q_thr1 ((zm2 m 137 0 (Int32.ofNat 0))) 2).2)) else ((Int32.ofNat 0), W, (q_thr1 ((zm2 m 137 0 (Int32.ofNat 0))) 1).2))
theorem p_tune {σ : Nat → Nat × (Nat → Int32)} {yy : (Nat → Nat → Int64) × Bool × Nat × Nat} {m : Nat → Nat → Int32} {W : Nat → Int32} {x : Int32} {n : Int32} {d : Nat} (hd : 2 ≤ d + 1) : zEv σ (d + 1) 1869 0 [some (.ref 137), some (.int x), some (.int n), none] [] (zS1, zrow m 138 W, yy) (.inl (some (.int (q_tune m W x n).1))) (zS1, zrow ((q_tune m W x n).2.2) 138 ((q_tune m W x n).2.1), yy) := by
  refine zeP rfl rfl ?_
  refine zeKn (c := 0) rfl rfl rfl ?_
  refine zeFP rfl rfl rfl ?_
  refine zeP rfl rfl ?_
  refine zeP rfl rfl ?_
  refine zeKn (c := 1) rfl rfl rfl ?_
  refine zeKn (c := 8) rfl rfl rfl ?_
  refine zeCF rfl rfl rfl rfl rfl rfl (c_in (m := (zm2 m 137 0 (Int32.ofNat 0))) (W := W) (v := x) (lo := (Int32.ofNat 1)) (hi := (Int32.ofNat 8)) ) (by omega) ?_
  dsimp only [Option.toList, List.cons_append, List.nil_append]
  refine zeB1 rfl rfl (fun h1 => ?_) (fun h1 => ?_)
  · refine zeKn (c := 0) rfl rfl rfl ?_
    refine zeKn (c := 1) rfl rfl rfl ?_
    refine zeCF rfl rfl rfl rfl rfl rfl (c_thr0 (m := (zm2 m 137 0 (Int32.ofNat 0))) (W := W) (c := 1) ) (by omega) ?_
    dsimp only [Option.toList, List.cons_append, List.nil_append]
    refine zeF1 rfl rfl (show zc1 .ne (Int32.ofNat 0) = false by decide) ?_
    have cx : x = Int32.ofNat x.toNatClampNeg ∧ (1 ≤ x.toNatClampNeg ∧ x.toNatClampNeg ≤ 8) := (in_1 (by omega) (by omega) (by assumption))
    refine zeP rfl rfl ?_
    refine zeP rfl rfl ?_
    refine zeKn (c := x.toNatClampNeg) rfl rfl cx.1 ?_
    refine zeCF rfl rfl rfl rfl rfl rfl (c_leastOf (m := (zm2 m 137 0 (Int32.ofNat 0))) (W := W) (x := (x.toNatClampNeg)) ) (by omega) ?_
    dsimp only [Option.toList, List.cons_append, List.nil_append]
    refine zeKn (c := x.toNatClampNeg) rfl rfl cx.1 ?_
    refine zeCF rfl rfl rfl rfl rfl rfl (c_mostOf (m := (zm2 m 137 0 (Int32.ofNat 0))) (W := W) (x := (x.toNatClampNeg)) cx.2.2) (by omega) ?_
    dsimp only [Option.toList, List.cons_append, List.nil_append]
    refine zeCF rfl rfl rfl rfl rfl rfl (c_in (m := (zm2 m 137 0 (Int32.ofNat 0))) (W := W) (v := n) (lo := (q_leastOf ((x.toNatClampNeg)))) (hi := (q_mostOf ((x.toNatClampNeg)))) ) (by omega) ?_
    dsimp only [Option.toList, List.cons_append, List.nil_append]
    refine zeB1 rfl rfl (fun h2 => ?_) (fun h2 => ?_)
    · refine zeKn (c := 0) rfl rfl rfl ?_
      refine zeKn (c := 2) rfl rfl rfl ?_
      refine zeCF rfl rfl rfl rfl rfl rfl (c_thr0 (m := (zm2 m 137 0 (Int32.ofNat 0))) (W := W) (c := 2) ) (by omega) ?_
      dsimp only [Option.toList, List.cons_append, List.nil_append]
      refine zeT1 rfl rfl (show zc1 .eq (Int32.ofNat 0) = true by decide) ?_
      refine zeP rfl rfl ?_
      refine zeGR rfl rfl zS137 rfl rfl ?_
      refine zeKn (c := x.toNatClampNeg) rfl rfl cx.1 ?_
      refine zeWL (k := (x.toNatClampNeg)) rfl (by omega) ?_
      refine zeP rfl rfl ?_
      refine zeP rfl rfl ?_
      refine zeGR rfl rfl zS137 rfl rfl ?_
      refine zeKn (c := x.toNatClampNeg) rfl rfl cx.1 ?_
      refine zeP rfl rfl ?_
      refine zeWS (k := (x.toNatClampNeg)) rfl (by omega) ?_
      refine zeP rfl rfl ?_
      exact zeRe rfl rfl rfl rfl (by simp only [q_tune, h1, h2, cond_true, cond_false] <;> rfl) (by simp only [q_tune, h1, h2, cond_true, cond_false] <;> rfl)
    · refine zeKn (c := 1) rfl rfl rfl ?_
      refine zeP rfl rfl ?_
      refine zeKn (c := 2) rfl rfl rfl ?_
      refine zeCF rfl rfl rfl rfl rfl rfl (c_thr1 (m := (zm2 m 137 0 (Int32.ofNat 0))) (W := W) (c := 2) ) (by omega) ?_
      dsimp only [Option.toList, List.cons_append, List.nil_append]
      refine zeF1 rfl rfl (show zc1 .eq (Int32.ofNat 1) = false by decide) ?_
      refine zeKn (c := 0) rfl rfl rfl ?_
      exact zeRe rfl rfl rfl rfl (by simp only [q_tune, h1, h2, cond_true, cond_false] <;> rfl) (by simp only [q_tune, h1, h2, cond_true, cond_false] <;> rfl)
  · refine zeKn (c := 1) rfl rfl rfl ?_
    refine zeP rfl rfl ?_
    refine zeKn (c := 1) rfl rfl rfl ?_
    refine zeCF rfl rfl rfl rfl rfl rfl (c_thr1 (m := (zm2 m 137 0 (Int32.ofNat 0))) (W := W) (c := 1) ) (by omega) ?_
    dsimp only [Option.toList, List.cons_append, List.nil_append]
    refine zeT1 rfl rfl (show zc1 .ne (Int32.ofNat 1) = true by decide) ?_
    refine zeKn (c := 0) rfl rfl rfl ?_
    exact zeRe rfl rfl rfl rfl (by simp only [q_tune, h1, cond_true, cond_false] <;> rfl) (by simp only [q_tune, h1, cond_true, cond_false] <;> rfl)
theorem c_tune {σ : Nat → Nat × (Nat → Int32)} {yy : (Nat → Nat → Int64) × Bool × Nat × Nat} {m : Nat → Nat → Int32} {W : Nat → Int32} {x : Int32} {n : Int32} : zF σ 2 1869 [.ref 137, .int x, .int n] (zS1, zrow m 138 W, yy) (.inl (some (.int (q_tune m W x n).1))) (zS1, zrow ((q_tune m W x n).2.2) 138 ((q_tune m W x n).2.1), yy) := by
  intro d hd
  obtain ⟨d, rfl⟩ : ∃ k, d = k + 1 := ⟨d - 1, by omega⟩
  exact p_tune hd 
def q_step (m : Nat → Nat → Int32) (W : Nat → Int32) (t : Int32) : Int32 × (Nat → Int32) × (Nat → Nat → Int32) := (bif zc1 .ne (q_noThread m W t).1 then ((Int32.ofNat 0), W, (q_noThread m W t).2) else (bif zc1 .ne (q_isDone W ((t.toNatClampNeg))) then ((Int32.ofNat 0), W, (q_thr1 ((q_noThread m W t).2) 2).2) else (bif zc2 .ne (W 11) (Int32.ofNat 99999) then ((q_steps ((q_noThread m W t).2) W ((t.toNatClampNeg))).1, (q_steps ((q_noThread m W t).2) W ((t.toNatClampNeg))).2.1, (q_steps ((q_noThread m W t).2) W ((t.toNatClampNeg))).2.2) else ((Int32.ofNat 0), W, (q_thr1 ((q_noThread m W t).2) 2).2))))
theorem p_step {σ : Nat → Nat × (Nat → Int32)} {yy : (Nat → Nat → Int64) × Bool × Nat × Nat} {m : Nat → Nat → Int32} {W : Nat → Int32} {t : Int32} {d : Nat} (hd : 10 ≤ d + 1) (hw : WG W) : zEv σ (d + 1) 1864 0 [some (.ref 137), some (.int t)] [] (zS1, zrow m 138 W, yy) (.inl (some (.int (q_step m W t).1))) (zS1, zrow ((q_step m W t).2.2) 138 ((q_step m W t).2.1), yy) := by
  refine zeP rfl rfl ?_
  refine zeP rfl rfl ?_
  refine zeCF rfl rfl rfl rfl rfl rfl (c_noThread (m := m) (W := W) (t := t) ) (by omega) ?_
  dsimp only [Option.toList, List.cons_append, List.nil_append]
  refine zeB1 rfl rfl (fun h1 => ?_) (fun h1 => ?_)
  · refine zeKn (c := 0) rfl rfl rfl ?_
    refine zeP rfl rfl ?_
    exact zeRe rfl rfl rfl rfl (by simp only [q_step, h1, cond_true, cond_false] <;> rfl) (by simp only [q_step, h1, cond_true, cond_false] <;> rfl)
  · have ct : t = Int32.ofNat t.toNatClampNeg ∧ t.toNatClampNeg < nv W 9 := (nT_in hw (by assumption))
    refine zeP rfl rfl ?_
    refine zeP rfl rfl ?_
    refine zeKn (c := t.toNatClampNeg) rfl rfl ct.1 ?_
    refine zeCF rfl rfl rfl rfl rfl rfl (c_isDone (m := (q_noThread m W t).2) (W := W) (t := (t.toNatClampNeg)) (by have := hw.N4; omega)) (by omega) ?_
    dsimp only [Option.toList, List.cons_append, List.nil_append]
    refine zeB1 rfl rfl (fun h2 => ?_) (fun h2 => ?_)
    · refine zeKn (c := 1) rfl rfl rfl ?_
      refine zeP rfl rfl ?_
      refine zeKn (c := 2) rfl rfl rfl ?_
      refine zeCF rfl rfl rfl rfl rfl rfl (c_thr1 (m := (q_noThread m W t).2) (W := W) (c := 2) ) (by omega) ?_
      dsimp only [Option.toList, List.cons_append, List.nil_append]
      refine zeF1 rfl rfl (show zc1 .eq (Int32.ofNat 1) = false by decide) ?_
      refine zeKn (c := 0) rfl rfl rfl ?_
      refine zeP rfl rfl ?_
      exact zeRe rfl rfl rfl rfl (by simp only [q_step, h1, h2, cond_true, cond_false] <;> rfl) (by simp only [q_step, h1, h2, cond_true, cond_false] <;> rfl)
    · refine zeP rfl rfl ?_
      refine zeGR rfl rfl zS137 rfl rfl ?_
      refine zeKn (c := 11) rfl rfl rfl ?_
      refine zeWL (k := 11) rfl (by omega) ?_
      refine zeKn (c := 99999) rfl rfl rfl ?_
      refine zeB2 rfl rfl (fun h3 => ?_) (fun h3 => ?_)
      · refine zeKn (c := 0) rfl rfl rfl ?_
        refine zeKn (c := 2) rfl rfl rfl ?_
        refine zeCF rfl rfl rfl rfl rfl rfl (c_thr0 (m := (q_noThread m W t).2) (W := W) (c := 2) ) (by omega) ?_
        dsimp only [Option.toList, List.cons_append, List.nil_append]
        refine zeT1 rfl rfl (show zc1 .eq (Int32.ofNat 0) = true by decide) ?_
        refine zeP rfl rfl ?_
        refine zeKn (c := t.toNatClampNeg) rfl rfl ct.1 ?_
        refine zeCF rfl rfl rfl rfl rfl rfl (c_steps (m := (q_noThread m W t).2) (W := W) (t := (t.toNatClampNeg)) (nd_KG hw (by have := hw.N4; omega) (by assumption)) (by have := hw.N4; omega)) (by omega) ?_
        dsimp only [Option.toList, List.cons_append, List.nil_append]
        exact zeRe rfl rfl rfl rfl (by simp only [q_step, h1, h2, h3, cond_true, cond_false] <;> rfl) (by simp only [q_step, h1, h2, h3, cond_true, cond_false] <;> rfl)
      · refine zeKn (c := 1) rfl rfl rfl ?_
        refine zeP rfl rfl ?_
        refine zeKn (c := 2) rfl rfl rfl ?_
        refine zeCF rfl rfl rfl rfl rfl rfl (c_thr1 (m := (q_noThread m W t).2) (W := W) (c := 2) ) (by omega) ?_
        dsimp only [Option.toList, List.cons_append, List.nil_append]
        refine zeF1 rfl rfl (show zc1 .eq (Int32.ofNat 1) = false by decide) ?_
        refine zeKn (c := 0) rfl rfl rfl ?_
        refine zeP rfl rfl ?_
        exact zeRe rfl rfl rfl rfl (by simp only [q_step, h1, h2, h3, cond_true, cond_false] <;> rfl) (by simp only [q_step, h1, h2, h3, cond_true, cond_false] <;> rfl)
theorem c_step {σ : Nat → Nat × (Nat → Int32)} {yy : (Nat → Nat → Int64) × Bool × Nat × Nat} {m : Nat → Nat → Int32} {W : Nat → Int32} {t : Int32} (hw : WG W) : zF σ 10 1864 [.ref 137, .int t] (zS1, zrow m 138 W, yy) (.inl (some (.int (q_step m W t).1))) (zS1, zrow ((q_step m W t).2.2) 138 ((q_step m W t).2.1), yy) := by
  intro d hd
  obtain ⟨d, rfl⟩ : ∃ k, d = k + 1 := ⟨d - 1, by omega⟩
  exact p_step hd hw
def q_run (m : Nat → Nat → Int32) (W : Nat → Int32) (n : Int32) : Int32 × (Nat → Int32) × (Nat → Nat → Int32) := (bif zc1 .ne (q_in n ((Int32.ofNat 1)) ((Int32.ofNat 100))) then ((q_goesT ((zm2 m 137 0 (Int32.ofNat 0))) W ((n.toNatClampNeg))).1, (q_goesT ((zm2 m 137 0 (Int32.ofNat 0))) W ((n.toNatClampNeg))).2.1, (q_goesT ((zm2 m 137 0 (Int32.ofNat 0))) W ((n.toNatClampNeg))).2.2) else ((Int32.ofNat 0), W, (q_thr1 ((zm2 m 137 0 (Int32.ofNat 0))) 1).2))
theorem p_run {σ : Nat → Nat × (Nat → Int32)} {yy : (Nat → Nat → Int64) × Bool × Nat × Nat} {m : Nat → Nat → Int32} {W : Nat → Int32} {n : Int32} {d : Nat} (hd : 11 ≤ d + 1) (hw : WG W) (hL : LT W) : zEv σ (d + 1) 1866 0 [some (.ref 137), some (.int n)] [] (zS1, zrow m 138 W, yy) (.inl (some (.int (q_run m W n).1))) (zS1, zrow ((q_run m W n).2.2) 138 ((q_run m W n).2.1), yy) := by
  refine zeP rfl rfl ?_
  refine zeKn (c := 0) rfl rfl rfl ?_
  refine zeFP rfl rfl rfl ?_
  refine zeP rfl rfl ?_
  refine zeP rfl rfl ?_
  refine zeKn (c := 1) rfl rfl rfl ?_
  refine zeKn (c := 100) rfl rfl rfl ?_
  refine zeCF rfl rfl rfl rfl rfl rfl (c_in (m := (zm2 m 137 0 (Int32.ofNat 0))) (W := W) (v := n) (lo := (Int32.ofNat 1)) (hi := (Int32.ofNat 100)) ) (by omega) ?_
  dsimp only [Option.toList, List.cons_append, List.nil_append]
  refine zeB1 rfl rfl (fun h1 => ?_) (fun h1 => ?_)
  · refine zeKn (c := 0) rfl rfl rfl ?_
    refine zeKn (c := 1) rfl rfl rfl ?_
    refine zeCF rfl rfl rfl rfl rfl rfl (c_thr0 (m := (zm2 m 137 0 (Int32.ofNat 0))) (W := W) (c := 1) ) (by omega) ?_
    dsimp only [Option.toList, List.cons_append, List.nil_append]
    refine zeT1 rfl rfl (show zc1 .eq (Int32.ofNat 0) = true by decide) ?_
    have cn : n = Int32.ofNat n.toNatClampNeg ∧ (1 ≤ n.toNatClampNeg ∧ n.toNatClampNeg ≤ 100) := (in_1 (by omega) (by omega) (by assumption))
    refine zeP rfl rfl ?_
    refine zeKn (c := n.toNatClampNeg) rfl rfl cn.1 ?_
    refine zeKn (c := 0) rfl rfl rfl ?_
    refine zeCF rfl rfl rfl rfl rfl rfl (c_goesT (m := (zm2 m 137 0 (Int32.ofNat 0))) (W := W) (q := (n.toNatClampNeg)) (by omega) hw hL) (by omega) ?_
    dsimp only [Option.toList, List.cons_append, List.nil_append]
    exact zeRe rfl rfl rfl rfl (by simp only [q_run, h1, cond_true, cond_false] <;> rfl) (by simp only [q_run, h1, cond_true, cond_false] <;> rfl)
  · refine zeKn (c := 1) rfl rfl rfl ?_
    refine zeP rfl rfl ?_
    refine zeKn (c := 1) rfl rfl rfl ?_
    refine zeCF rfl rfl rfl rfl rfl rfl (c_thr1 (m := (zm2 m 137 0 (Int32.ofNat 0))) (W := W) (c := 1) ) (by omega) ?_
    dsimp only [Option.toList, List.cons_append, List.nil_append]
    refine zeF1 rfl rfl (show zc1 .eq (Int32.ofNat 1) = false by decide) ?_
    refine zeKn (c := 0) rfl rfl rfl ?_
    refine zeP rfl rfl ?_
    exact zeRe rfl rfl rfl rfl (by simp only [q_run, h1, cond_true, cond_false] <;> rfl) (by simp only [q_run, h1, cond_true, cond_false] <;> rfl)
theorem c_run {σ : Nat → Nat × (Nat → Int32)} {yy : (Nat → Nat → Int64) × Bool × Nat × Nat} {m : Nat → Nat → Int32} {W : Nat → Int32} {n : Int32} (hw : WG W) (hL : LT W) : zF σ 11 1866 [.ref 137, .int n] (zS1, zrow m 138 W, yy) (.inl (some (.int (q_run m W n).1))) (zS1, zrow ((q_run m W n).2.2) 138 ((q_run m W n).2.1), yy) := by
  intro d hd
  obtain ⟨d, rfl⟩ : ∃ k, d = k + 1 := ⟨d - 1, by omega⟩
  exact p_run hd hw hL
def q_chance (m : Nat → Nat → Int32) (W : Nat → Int32) (n : Int32) : Int32 × (Nat → Int32) × (Nat → Nat → Int32) := (bif zc1 .ne (q_in n ((Int32.ofNat 1)) ((Int32.ofNat 100))) then ((q_goesD ((zm2 m 137 0 (Int32.ofNat 0))) W ((n.toNatClampNeg))).1, (q_goesD ((zm2 m 137 0 (Int32.ofNat 0))) W ((n.toNatClampNeg))).2.1, (q_goesD ((zm2 m 137 0 (Int32.ofNat 0))) W ((n.toNatClampNeg))).2.2) else ((Int32.ofNat 0), W, (q_thr1 ((zm2 m 137 0 (Int32.ofNat 0))) 1).2))
theorem p_chance {σ : Nat → Nat × (Nat → Int32)} {yy : (Nat → Nat → Int64) × Bool × Nat × Nat} {m : Nat → Nat → Int32} {W : Nat → Int32} {n : Int32} {d : Nat} (hd : 11 ≤ d + 1) (hw : WG W) (hL : LT W) : zEv σ (d + 1) 1867 0 [some (.ref 137), some (.int n)] [] (zS1, zrow m 138 W, yy) (.inl (some (.int (q_chance m W n).1))) (zS1, zrow ((q_chance m W n).2.2) 138 ((q_chance m W n).2.1), yy) := by
  refine zeP rfl rfl ?_
  refine zeKn (c := 0) rfl rfl rfl ?_
  refine zeFP rfl rfl rfl ?_
  refine zeP rfl rfl ?_
  refine zeP rfl rfl ?_
  refine zeKn (c := 1) rfl rfl rfl ?_
  refine zeKn (c := 100) rfl rfl rfl ?_
  refine zeCF rfl rfl rfl rfl rfl rfl (c_in (m := (zm2 m 137 0 (Int32.ofNat 0))) (W := W) (v := n) (lo := (Int32.ofNat 1)) (hi := (Int32.ofNat 100)) ) (by omega) ?_
  dsimp only [Option.toList, List.cons_append, List.nil_append]
  refine zeB1 rfl rfl (fun h1 => ?_) (fun h1 => ?_)
  · refine zeKn (c := 0) rfl rfl rfl ?_
    refine zeKn (c := 1) rfl rfl rfl ?_
    refine zeCF rfl rfl rfl rfl rfl rfl (c_thr0 (m := (zm2 m 137 0 (Int32.ofNat 0))) (W := W) (c := 1) ) (by omega) ?_
    dsimp only [Option.toList, List.cons_append, List.nil_append]
    refine zeT1 rfl rfl (show zc1 .eq (Int32.ofNat 0) = true by decide) ?_
    have cn : n = Int32.ofNat n.toNatClampNeg ∧ (1 ≤ n.toNatClampNeg ∧ n.toNatClampNeg ≤ 100) := (in_1 (by omega) (by omega) (by assumption))
    refine zeP rfl rfl ?_
    refine zeKn (c := n.toNatClampNeg) rfl rfl cn.1 ?_
    refine zeKn (c := 1) rfl rfl rfl ?_
    refine zeCF rfl rfl rfl rfl rfl rfl (c_goesD (m := (zm2 m 137 0 (Int32.ofNat 0))) (W := W) (q := (n.toNatClampNeg)) (by omega) hw hL) (by omega) ?_
    dsimp only [Option.toList, List.cons_append, List.nil_append]
    exact zeRe rfl rfl rfl rfl (by simp only [q_chance, h1, cond_true, cond_false] <;> rfl) (by simp only [q_chance, h1, cond_true, cond_false] <;> rfl)
  · refine zeKn (c := 1) rfl rfl rfl ?_
    refine zeP rfl rfl ?_
    refine zeKn (c := 1) rfl rfl rfl ?_
    refine zeCF rfl rfl rfl rfl rfl rfl (c_thr1 (m := (zm2 m 137 0 (Int32.ofNat 0))) (W := W) (c := 1) ) (by omega) ?_
    dsimp only [Option.toList, List.cons_append, List.nil_append]
    refine zeF1 rfl rfl (show zc1 .eq (Int32.ofNat 1) = false by decide) ?_
    refine zeKn (c := 0) rfl rfl rfl ?_
    refine zeP rfl rfl ?_
    exact zeRe rfl rfl rfl rfl (by simp only [q_chance, h1, cond_true, cond_false] <;> rfl) (by simp only [q_chance, h1, cond_true, cond_false] <;> rfl)
theorem c_chance {σ : Nat → Nat × (Nat → Int32)} {yy : (Nat → Nat → Int64) × Bool × Nat × Nat} {m : Nat → Nat → Int32} {W : Nat → Int32} {n : Int32} (hw : WG W) (hL : LT W) : zF σ 11 1867 [.ref 137, .int n] (zS1, zrow m 138 W, yy) (.inl (some (.int (q_chance m W n).1))) (zS1, zrow ((q_chance m W n).2.2) 138 ((q_chance m W n).2.1), yy) := by
  intro d hd
  obtain ⟨d, rfl⟩ : ∃ k, d = k + 1 := ⟨d - 1, by omega⟩
  exact p_chance hd hw hL
def q_poke (m : Nat → Nat → Int32) (W : Nat → Int32) (w : Int32) (v : Int32) : Int32 × (Nat → Int32) × (Nat → Nat → Int32) := (bif zc1 .ne (q_in w ((Int32.ofNat 0)) ((Int32.ofNat 31))) then (bif zc1 .ne (q_in v ((Int32.ofNat 0)) ((Int32.ofNat 9999))) then ((W (32 + (w.toNatClampNeg))), (q_writesX W ((w.toNatClampNeg)) v).2, (zm2 m 137 0 (Int32.ofNat 0))) else ((Int32.ofNat 0), W, (q_thr1 ((zm2 m 137 0 (Int32.ofNat 0))) 2).2)) else ((Int32.ofNat 0), W, (q_thr1 ((zm2 m 137 0 (Int32.ofNat 0))) 1).2))
theorem p_poke {σ : Nat → Nat × (Nat → Int32)} {yy : (Nat → Nat → Int64) × Bool × Nat × Nat} {m : Nat → Nat → Int32} {W : Nat → Int32} {w : Int32} {v : Int32} {d : Nat} (hd : 6 ≤ d + 1) (hw : WG W) : zEv σ (d + 1) 1868 0 [some (.ref 137), some (.int w), some (.int v), none, none] [] (zS1, zrow m 138 W, yy) (.inl (some (.int (q_poke m W w v).1))) (zS1, zrow ((q_poke m W w v).2.2) 138 ((q_poke m W w v).2.1), yy) := by
  refine zeP rfl rfl ?_
  refine zeKn (c := 0) rfl rfl rfl ?_
  refine zeFP rfl rfl rfl ?_
  refine zeP rfl rfl ?_
  refine zeP rfl rfl ?_
  refine zeKn (c := 0) rfl rfl rfl ?_
  refine zeKn (c := 31) rfl rfl rfl ?_
  refine zeCF rfl rfl rfl rfl rfl rfl (c_in (m := (zm2 m 137 0 (Int32.ofNat 0))) (W := W) (v := w) (lo := (Int32.ofNat 0)) (hi := (Int32.ofNat 31)) ) (by omega) ?_
  dsimp only [Option.toList, List.cons_append, List.nil_append]
  refine zeB1 rfl rfl (fun h1 => ?_) (fun h1 => ?_)
  · refine zeKn (c := 0) rfl rfl rfl ?_
    refine zeKn (c := 1) rfl rfl rfl ?_
    refine zeCF rfl rfl rfl rfl rfl rfl (c_thr0 (m := (zm2 m 137 0 (Int32.ofNat 0))) (W := W) (c := 1) ) (by omega) ?_
    dsimp only [Option.toList, List.cons_append, List.nil_append]
    refine zeF1 rfl rfl (show zc1 .ne (Int32.ofNat 0) = false by decide) ?_
    refine zeP rfl rfl ?_
    refine zeP rfl rfl ?_
    refine zeKn (c := 0) rfl rfl rfl ?_
    refine zeKn (c := 9999) rfl rfl rfl ?_
    refine zeCF rfl rfl rfl rfl rfl rfl (c_in (m := (zm2 m 137 0 (Int32.ofNat 0))) (W := W) (v := v) (lo := (Int32.ofNat 0)) (hi := (Int32.ofNat 9999)) ) (by omega) ?_
    dsimp only [Option.toList, List.cons_append, List.nil_append]
    refine zeB1 rfl rfl (fun h2 => ?_) (fun h2 => ?_)
    · refine zeKn (c := 0) rfl rfl rfl ?_
      refine zeKn (c := 2) rfl rfl rfl ?_
      refine zeCF rfl rfl rfl rfl rfl rfl (c_thr0 (m := (zm2 m 137 0 (Int32.ofNat 0))) (W := W) (c := 2) ) (by omega) ?_
      dsimp only [Option.toList, List.cons_append, List.nil_append]
      refine zeT1 rfl rfl (show zc1 .eq (Int32.ofNat 0) = true by decide) ?_
      have cw : w = Int32.ofNat w.toNatClampNeg ∧ (0 ≤ w.toNatClampNeg ∧ w.toNatClampNeg ≤ 31) := (in_1 (by omega) (by omega) (by assumption))
      refine zeP rfl rfl ?_
      refine zeGR rfl rfl zS137 rfl rfl ?_
      refine zeKn (c := 32) rfl rfl rfl ?_
      refine zeKn (c := w.toNatClampNeg) rfl rfl cw.1 ?_
      refine zeAdd rfl ?_
      refine zeWL (k := (32 + (w.toNatClampNeg))) rfl (by omega) ?_
      refine zeP rfl rfl ?_
      refine zeP rfl rfl ?_
      refine zeK (v := -1) rfl rfl rfl ?_
      refine zeKn (c := w.toNatClampNeg) rfl rfl cw.1 ?_
      refine zeP rfl rfl ?_
      refine zeCF rfl rfl rfl rfl rfl rfl (c_writesX (m := (zm2 m 137 0 (Int32.ofNat 0))) (W := W) (w := (w.toNatClampNeg)) (v := v) hw (by omega)) (by omega) ?_
      dsimp only [Option.toList, List.cons_append, List.nil_append]
      refine zeP rfl rfl ?_
      refine zeP rfl rfl ?_
      exact zeRe rfl rfl rfl rfl (by simp only [q_poke, h1, h2, cond_true, cond_false] <;> rfl) (by simp only [q_poke, h1, h2, cond_true, cond_false] <;> rfl)
    · refine zeKn (c := 1) rfl rfl rfl ?_
      refine zeP rfl rfl ?_
      refine zeKn (c := 2) rfl rfl rfl ?_
      refine zeCF rfl rfl rfl rfl rfl rfl (c_thr1 (m := (zm2 m 137 0 (Int32.ofNat 0))) (W := W) (c := 2) ) (by omega) ?_
      dsimp only [Option.toList, List.cons_append, List.nil_append]
      refine zeF1 rfl rfl (show zc1 .eq (Int32.ofNat 1) = false by decide) ?_
      refine zeKn (c := 0) rfl rfl rfl ?_
      exact zeRe rfl rfl rfl rfl (by simp only [q_poke, h1, h2, cond_true, cond_false] <;> rfl) (by simp only [q_poke, h1, h2, cond_true, cond_false] <;> rfl)
  · refine zeKn (c := 1) rfl rfl rfl ?_
    refine zeP rfl rfl ?_
    refine zeKn (c := 1) rfl rfl rfl ?_
    refine zeCF rfl rfl rfl rfl rfl rfl (c_thr1 (m := (zm2 m 137 0 (Int32.ofNat 0))) (W := W) (c := 1) ) (by omega) ?_
    dsimp only [Option.toList, List.cons_append, List.nil_append]
    refine zeT1 rfl rfl (show zc1 .ne (Int32.ofNat 1) = true by decide) ?_
    refine zeKn (c := 0) rfl rfl rfl ?_
    exact zeRe rfl rfl rfl rfl (by simp only [q_poke, h1, cond_true, cond_false] <;> rfl) (by simp only [q_poke, h1, cond_true, cond_false] <;> rfl)
theorem c_poke {σ : Nat → Nat × (Nat → Int32)} {yy : (Nat → Nat → Int64) × Bool × Nat × Nat} {m : Nat → Nat → Int32} {W : Nat → Int32} {w : Int32} {v : Int32} (hw : WG W) : zF σ 6 1868 [.ref 137, .int w, .int v] (zS1, zrow m 138 W, yy) (.inl (some (.int (q_poke m W w v).1))) (zS1, zrow ((q_poke m W w v).2.2) 138 ((q_poke m W w v).2.1), yy) := by
  intro d hd
  obtain ⟨d, rfl⟩ : ∃ k, d = k + 1 := ⟨d - 1, by omega⟩
  exact p_poke hd hw
