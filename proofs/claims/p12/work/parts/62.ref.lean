noncomputable def q_does (m : Nat → Nat → Int32) (W : Nat → Int32) (t K n : Nat) : QT := match K with
  | 0 => q_does0 m W t n
  | 1 => q_does1 m W t n
  | 2 => q_does2 m W t n
  | 3 => q_does3 m W t n
  | 4 => ((q_does4 W t n).1, (q_does4 W t n).2, m)
  | 5 => ((q_does5 W t n).1, (q_does5 W t n).2, m)
  | 6 => ((q_does6 W t n).1, (q_does6 W t n).2, m)
  | _ => q_does7 m W t n
theorem c_does {σ : Nat → Nat × (Nat → Int32)} {yy : (Nat → Nat → Int64) × Bool × Nat × Nat} {m : Nat → Nat → Int32} {W : Nat → Int32} {t K n : Nat} (hk : KG W t) (ht : t < 4) (hK : K < 8) (hn1 : K ≤ 1 → n ≤ 3) (hn3 : K ≤ 3 → n ≤ 31) : zF σ 8 1834 [.ref 137, .int (Int32.ofNat t), .int (Int32.ofNat K), .int (Int32.ofNat n)] (zS1, zrow m 138 W, yy) (.inl (some (.int (q_does m W t K n).1))) (zS1, zrow ((q_does m W t K n).2.2) 138 ((q_does m W t K n).2.1), yy) := by
  match K, hK, hn1, hn3 with
  | 0, _, hn1, hn3 => exact zF.up (c_does0 (m := m) (W := W) (t := t) (n := n) hk ht (Nat.lt_succ_of_le (hn1 (by first | exact zq_adn (by decide) | exact zq_adr (zq_adn (by decide)) | omega)))) (by first | exact zq_adn (by decide) | exact zq_adr (zq_adn (by decide)) | omega)
  | 1, _, hn1, hn3 => exact zF.up (c_does1 (m := m) (W := W) (t := t) (n := n) hk ht (Nat.lt_succ_of_le (hn1 (by first | exact zq_adn (by decide) | exact zq_adr (zq_adn (by decide)) | omega)))) (by first | exact zq_adn (by decide) | exact zq_adr (zq_adn (by decide)) | omega)
  | 2, _, hn1, hn3 => exact zF.up (c_does2 (m := m) (W := W) (t := t) (n := n) hk ht (Nat.lt_succ_of_le (hn3 (by first | exact zq_adn (by decide) | exact zq_adr (zq_adn (by decide)) | omega)))) (by first | exact zq_adn (by decide) | exact zq_adr (zq_adn (by decide)) | omega)
  | 3, _, hn1, hn3 => exact zF.up (c_does3 (m := m) (W := W) (t := t) (n := n) hk ht (Nat.lt_succ_of_le (hn3 (by first | exact zq_adn (by decide) | exact zq_adr (zq_adn (by decide)) | omega)))) (by first | exact zq_adn (by decide) | exact zq_adr (zq_adn (by decide)) | omega)
  | 4, _, hn1, hn3 => exact zF.up (c_does4 (m := m) (W := W) (t := t) (n := n) hk ht) (by first | exact zq_adn (by decide) | exact zq_adr (zq_adn (by decide)) | omega)
  | 5, _, hn1, hn3 => exact zF.up (c_does5 (m := m) (W := W) (t := t) (n := n) hk ht) (by first | exact zq_adn (by decide) | exact zq_adr (zq_adn (by decide)) | omega)
  | 6, _, hn1, hn3 => exact zF.up (c_does6 (m := m) (W := W) (t := t) (n := n) hk ht) (by first | exact zq_adn (by decide) | exact zq_adr (zq_adn (by decide)) | omega)
  | 7, _, hn1, hn3 => exact zF.up (c_does7 (m := m) (W := W) (t := t) (n := n) hk ht) (by first | exact zq_adn (by decide) | exact zq_adr (zq_adn (by decide)) | omega)
theorem does_ok {W : Nat → Int32} {m : Nat → Nat → Int32} {t K n : Nat} (h : KG W t) (ht : t < 4) (hK : K < 8) (hn1 : K ≤ 1 → n ≤ 3) (hn3 : K ≤ 3 → n ≤ 31) : KB t (q_does m W t K n) := by
  match K, hK, hn1, hn3 with
  | 0, _, hn1, hn3 => exact takes_ok h ht (Nat.lt_succ_of_le (hn1 (by first | exact zq_adn (by decide) | exact zq_adr (zq_adn (by decide)) | omega)))
  | 1, _, hn1, hn3 => exact drops_ok h ht (Nat.lt_succ_of_le (hn1 (by first | exact zq_adn (by decide) | exact zq_adr (zq_adn (by decide)) | omega)))
  | 2, _, hn1, hn3 =>
    show KB t (q_does2 m W t n)
    unfold q_does2
    have ar := h.reads (m := m) ht (Int32.ofNat n)
    generalize q_reads m W t (Int32.ofNat n) = cr at ar ⊢
    exact cndi (KB t) ⟨ar.put ht _ (fre_at ht (by first | exact zq_adn (by decide) | exact zq_adr (zq_adn (by decide)) | omega) (by unfold cT; omega)), b01_1⟩ ⟨ar, b01_0⟩
  | 3, _, hn1, hn3 => exact ⟨h.writes ht (Nat.lt_succ_of_le (hn3 (by first | exact zq_adn (by decide) | exact zq_adr (zq_adn (by decide)) | omega))) _, writes_01⟩
  | 4, _, _, _ => exact ⟨h.put ht _ (fre_at ht (by first | exact zq_adn (by decide) | exact zq_adr (zq_adn (by decide)) | omega) (by unfold cT; omega)), b01_1⟩
  | 5, _, _, _ => exact ⟨h.put ht _ (fre_at ht (by first | exact zq_adn (by decide) | exact zq_adr (zq_adn (by decide)) | omega) (by unfold cT; omega)), b01_1⟩
  | 6, _, _, _ => exact works_ok h ht
  | 7, _, _, _ => exact putsOut_ok h ht
/-- the deed that is next -/
theorem KG.deed {W : Nat → Int32} {t : Nat} (h : KG W t) (ht : t < 4) : nv W (376 + 103 * t + 0) < 24 ∧ DG W t (nv W (376 + 103 * t + 0)) := by
  have h1 := (h.1.2 t ht).2.2.2.1.2.2
  have h2 : nv W (376 + 103 * t + 0) < nv W (376 + 103 * t + 22) := h.2
  exact ⟨by omega, (h.1.2 t ht).2.2.2.2.2.2.2 _ (by first | exact zq_adn (by decide) | exact zq_adr (zq_adn (by decide)) | omega)⟩
noncomputable def q_stepsE (m : Nat → Nat → Int32) (W : Nat → Int32) (t : Nat) (on : Int32) : Int32 × (Nat → Int32) := (bif zc1 .eq (m 137 5) then (bif zc1 .eq on then ((Int32.ofNat 0), (upd ((upd W 12 (Int32.ofNat t))) 11 ((((upd W 12 (Int32.ofNat t))) 11) + (Int32.ofNat 1)))) else ((Int32.ofNat 1), (upd ((upd W 12 (Int32.ofNat t))) 11 ((((upd W 12 (Int32.ofNat t))) 11) + (Int32.ofNat 1))))) else ((-1), (upd ((upd W 12 (Int32.ofNat t))) 11 ((((upd W 12 (Int32.ofNat t))) 11) + (Int32.ofNat 1)))))
theorem p_stepsE {σ : Nat → Nat × (Nat → Int32)} {yy : (Nat → Nat → Int64) × Bool × Nat × Nat} {m : Nat → Nat → Int32} {W : Nat → Int32} {t : Nat} {x2 : Option Value} {on : Int32} {d : Nat} (hd : 1 ≤ d + 1) (ht : t < 4) : zEv σ (d + 1) 1835 93 [some (.ref 137), some (.int (Int32.ofNat t)), x2, some (.int on)] [] (zS1, zrow m 138 W, yy) (.inl (some (.int (q_stepsE m W t on).1))) (zS1, zrow m 138 ((q_stepsE m W t on).2), yy) := by
  refine zeP rfl rfl ?_
  refine zeGR rfl rfl zS137 rfl rfl ?_
  refine zeKn (c := 12) rfl rfl rfl ?_
  refine zeP rfl rfl ?_
  refine zeWS (k := 12) rfl (by first | exact zq_adn (by decide) | exact zq_adr (zq_adn (by decide)) | omega) ?_
  refine zeP rfl rfl ?_
  refine zeGR rfl rfl zS137 rfl rfl ?_
  refine zeKn (c := 11) rfl rfl rfl ?_
  refine zeP rfl rfl ?_
  refine zeWL (k := 11) rfl (by first | exact zq_adn (by decide) | exact zq_adr (zq_adn (by decide)) | omega) ?_
  refine zeKn (c := 1) rfl rfl rfl ?_
  refine zeP rfl rfl ?_
  refine zeWS (k := 11) rfl (by first | exact zq_adn (by decide) | exact zq_adr (zq_adn (by decide)) | omega) ?_
  refine zeP rfl rfl ?_
  refine zeFI rfl rfl rfl rfl ?_
  refine zeB1 rfl rfl (fun h1 => ?_) (fun h1 => ?_)
  · refine zeP rfl rfl ?_
    refine zeB1 rfl rfl (fun h2 => ?_) (fun h2 => ?_)
    · refine zeKn (c := 0) rfl rfl rfl ?_
      exact zeRe rfl rfl rfl rfl (by simp only [q_stepsE, h1, h2, cond_true, cond_false] <;> rfl) (by simp only [q_stepsE, h1, h2, cond_true, cond_false] <;> rfl)
    · refine zeKn (c := 1) rfl rfl rfl ?_
      refine zeP rfl rfl ?_
      exact zeRe rfl rfl rfl rfl (by simp only [q_stepsE, h1, h2, cond_true, cond_false] <;> rfl) (by simp only [q_stepsE, h1, h2, cond_true, cond_false] <;> rfl)
  · refine zeK (v := -1) rfl rfl rfl ?_
    refine zeP rfl rfl ?_
    exact zeRe rfl rfl rfl rfl (by simp only [q_stepsE, h1, cond_true, cond_false] <;> rfl) (by simp only [q_stepsE, h1, cond_true, cond_false] <;> rfl)
noncomputable def q_stepsD (m : Nat → Nat → Int32) (W : Nat → Int32) (t : Nat) (on : Int32) : Int32 × (Nat → Int32) × (Nat → Nat → Int32) := (bif zc1 .eq (q_isDone W t) then ((q_stepsE m W t on).1, (q_stepsE m W t on).2, m) else (bif zc2 .ne (q_of W t 2) (Int32.ofNat 1) then ((q_stepsE m ((q_logs W ((Int32.ofNat t)) ((Int32.ofNat 6)) ((Int32.ofNat 0)))) t on).1, (q_stepsE m ((q_logs W ((Int32.ofNat t)) ((Int32.ofNat 6)) ((Int32.ofNat 0)))) t on).2, m) else ((q_stepsE ((q_itFalls m W t 2).2) ((q_itFalls m W t 2).1) t on).1, (q_stepsE ((q_itFalls m W t 2).2) ((q_itFalls m W t 2).1) t on).2, (q_itFalls m W t 2).2)))
theorem p_stepsD {σ : Nat → Nat × (Nat → Int32)} {yy : (Nat → Nat → Int64) × Bool × Nat × Nat} {m : Nat → Nat → Int32} {W : Nat → Int32} {t : Nat} {x2 : Option Value} {on : Int32} {d : Nat} (hd : 5 ≤ d + 1) (hw : WG W) (ht : t < 4) : zEv σ (d + 1) 1835 50 [some (.ref 137), some (.int (Int32.ofNat t)), x2, some (.int on)] [] (zS1, zrow m 138 W, yy) (.inl (some (.int (q_stepsD m W t on).1))) (zS1, zrow ((q_stepsD m W t on).2.2) 138 ((q_stepsD m W t on).2.1), yy) := by
  refine zeP rfl rfl ?_
  refine zeP rfl rfl ?_
  refine zeCF rfl rfl rfl rfl rfl rfl (c_isDone (m := m) (W := W) (t := t) ht) (by first | exact zq_adn (by decide) | exact zq_adr (zq_adn (by decide)) | omega) ?_
  dsimp only [Option.toList, List.cons_append, List.nil_append]
  refine zeB1 rfl rfl (fun h1 => ?_) (fun h1 => ?_)
  · refine zeP rfl rfl ?_
    refine zeP rfl rfl ?_
    refine zeCF rfl rfl rfl rfl rfl rfl (c_isDone (m := m) (W := W) (t := t) ht) (by first | exact zq_adn (by decide) | exact zq_adr (zq_adn (by decide)) | omega) ?_
    dsimp only [Option.toList, List.cons_append, List.nil_append]
    refine zeT1 rfl rfl h1 ?_
    simp only [q_stepsD, h1, cond_true, cond_false]
    exact p_stepsE (t := t) (x2 := x2) (on := on) (W := W) (m := m) (by first | exact zq_adn (by decide) | exact zq_adr (zq_adn (by decide)) | omega) ht
  · refine zeP rfl rfl ?_
    refine zeP rfl rfl ?_
    refine zeKn (c := 2) rfl rfl rfl ?_
    refine zeCF rfl rfl rfl rfl rfl rfl (c_of (m := m) (W := W) (t := t) (k := 2) (by first | assumption | omega)) (by first | exact zq_adn (by decide) | exact zq_adr (zq_adn (by decide)) | omega) ?_
    dsimp only [Option.toList, List.cons_append, List.nil_append]
    refine zeKn (c := 1) rfl rfl rfl ?_
    refine zeB2 rfl rfl (fun h2 => ?_) (fun h2 => ?_)
    · refine zeP rfl rfl ?_
      refine zeP rfl rfl ?_
      refine zeCF rfl rfl rfl rfl rfl rfl (c_isDone (m := m) (W := W) (t := t) ht) (by first | exact zq_adn (by decide) | exact zq_adr (zq_adn (by decide)) | omega) ?_
      dsimp only [Option.toList, List.cons_append, List.nil_append]
      refine zeF1 rfl rfl h1 ?_
      refine zeP rfl rfl ?_
      refine zeP rfl rfl ?_
      refine zeKn (c := 6) rfl rfl rfl ?_
      refine zeKn (c := 0) rfl rfl rfl ?_
      refine zeCF rfl rfl rfl rfl rfl rfl (c_logs (m := m) (W := W) (t := (Int32.ofNat t)) (w := (Int32.ofNat 6)) (v := (Int32.ofNat 0)) hw.C.1 hw.C.2) (by first | exact zq_adn (by decide) | exact zq_adr (zq_adn (by decide)) | omega) ?_
      dsimp only [Option.toList, List.cons_append, List.nil_append]
      simp only [q_stepsD, h1, h2, cond_true, cond_false]
      exact p_stepsE (t := t) (x2 := x2) (on := on) (W := (q_logs W ((Int32.ofNat t)) ((Int32.ofNat 6)) ((Int32.ofNat 0)))) (m := m) (by first | exact zq_adn (by decide) | exact zq_adr (zq_adn (by decide)) | omega) ht
    · refine zeP rfl rfl ?_
      refine zeP rfl rfl ?_
      refine zeKn (c := 2) rfl rfl rfl ?_
      refine zeCF rfl rfl rfl rfl rfl rfl (c_itFalls (m := m) (W := W) (t := t) (y := 2) ht (by first | exact zq_adn (by decide) | exact zq_adr (zq_adn (by decide)) | omega) (hw.L t ht).1 (hw.L t ht).2 hw.C.1 hw.C.2) (by first | exact zq_adn (by decide) | exact zq_adr (zq_adn (by decide)) | omega) ?_
      dsimp only [Option.toList, List.cons_append, List.nil_append]
      refine zeP rfl rfl ?_
      simp only [q_stepsD, h1, h2, cond_true, cond_false]
      exact p_stepsE (t := t) (x2 := x2) (on := on) (W := (q_itFalls m W t 2).1) (m := (q_itFalls m W t 2).2) (by first | exact zq_adn (by decide) | exact zq_adr (zq_adn (by decide)) | omega) ht
theorem KG.adv {W : Nat → Int32} {t : Nat} (h : KG W t) (ht : t < 4) : WG (upd W (376 + 103 * t + 0) (W (376 + 103 * t + 0) + Int32.ofNat 1)) := by
  have e : W (376 + 103 * t + 0) + Int32.ofNat 1 = Int32.ofNat (nv W (376 + 103 * t + 0) + 1) := by
    rw [Int32.ofNat_add, ← (h.1.2 t ht).2.2.2.2.1.1]
  rw [e]
  exact h.1.at0 ht h.2
noncomputable def q_steps (m : Nat → Nat → Int32) (W : Nat → Int32) (t : Nat) : Int32 × (Nat → Int32) × (Nat → Nat → Int32) := (bif zc1 .eq (q_does ((zm2 m 137 5 (Int32.ofNat 0))) W t ((nv W (376 + 103 * t + (55 + 2 * nv W (376 + 103 * t + 0))))) ((nv W (376 + 103 * t + (55 + 2 * nv W (376 + 103 * t + 0) + 1))))).1 then ((q_stepsE ((q_does ((zm2 m 137 5 (Int32.ofNat 0))) W t ((nv W (376 + 103 * t + (55 + 2 * nv W (376 + 103 * t + 0))))) ((nv W (376 + 103 * t + (55 + 2 * nv W (376 + 103 * t + 0) + 1))))).2.2) ((q_does ((zm2 m 137 5 (Int32.ofNat 0))) W t ((nv W (376 + 103 * t + (55 + 2 * nv W (376 + 103 * t + 0))))) ((nv W (376 + 103 * t + (55 + 2 * nv W (376 + 103 * t + 0) + 1))))).2.1) t ((q_does ((zm2 m 137 5 (Int32.ofNat 0))) W t ((nv W (376 + 103 * t + (55 + 2 * nv W (376 + 103 * t + 0))))) ((nv W (376 + 103 * t + (55 + 2 * nv W (376 + 103 * t + 0) + 1))))).1)).1, (q_stepsE ((q_does ((zm2 m 137 5 (Int32.ofNat 0))) W t ((nv W (376 + 103 * t + (55 + 2 * nv W (376 + 103 * t + 0))))) ((nv W (376 + 103 * t + (55 + 2 * nv W (376 + 103 * t + 0) + 1))))).2.2) ((q_does ((zm2 m 137 5 (Int32.ofNat 0))) W t ((nv W (376 + 103 * t + (55 + 2 * nv W (376 + 103 * t + 0))))) ((nv W (376 + 103 * t + (55 + 2 * nv W (376 + 103 * t + 0) + 1))))).2.1) t ((q_does ((zm2 m 137 5 (Int32.ofNat 0))) W t ((nv W (376 + 103 * t + (55 + 2 * nv W (376 + 103 * t + 0))))) ((nv W (376 + 103 * t + (55 + 2 * nv W (376 + 103 * t + 0) + 1))))).1)).2, (q_does ((zm2 m 137 5 (Int32.ofNat 0))) W t ((nv W (376 + 103 * t + (55 + 2 * nv W (376 + 103 * t + 0))))) ((nv W (376 + 103 * t + (55 + 2 * nv W (376 + 103 * t + 0) + 1))))).2.2) else (q_stepsD ((q_does ((zm2 m 137 5 (Int32.ofNat 0))) W t ((nv W (376 + 103 * t + (55 + 2 * nv W (376 + 103 * t + 0))))) ((nv W (376 + 103 * t + (55 + 2 * nv W (376 + 103 * t + 0) + 1))))).2.2) ((upd ((q_does ((zm2 m 137 5 (Int32.ofNat 0))) W t ((nv W (376 + 103 * t + (55 + 2 * nv W (376 + 103 * t + 0))))) ((nv W (376 + 103 * t + (55 + 2 * nv W (376 + 103 * t + 0) + 1))))).2.1) (376 + 103 * t + 0) ((((q_does ((zm2 m 137 5 (Int32.ofNat 0))) W t ((nv W (376 + 103 * t + (55 + 2 * nv W (376 + 103 * t + 0))))) ((nv W (376 + 103 * t + (55 + 2 * nv W (376 + 103 * t + 0) + 1))))).2.1) (376 + 103 * t + 0)) + (Int32.ofNat 1)))) t ((q_does ((zm2 m 137 5 (Int32.ofNat 0))) W t ((nv W (376 + 103 * t + (55 + 2 * nv W (376 + 103 * t + 0))))) ((nv W (376 + 103 * t + (55 + 2 * nv W (376 + 103 * t + 0) + 1))))).1)))
theorem p_steps {σ : Nat → Nat × (Nat → Int32)} {yy : (Nat → Nat → Int64) × Bool × Nat × Nat} {m : Nat → Nat → Int32} {W : Nat → Int32} {t : Nat} {d : Nat} (hd : 9 ≤ d + 1) (hk : KG W t) (ht : t < 4) : zEv σ (d + 1) 1835 0 [some (.ref 137), some (.int (Int32.ofNat t)), none, none] [] (zS1, zrow m 138 W, yy) (.inl (some (.int (q_steps m W t).1))) (zS1, zrow ((q_steps m W t).2.2) 138 ((q_steps m W t).2.1), yy) := by
  refine zeP rfl rfl ?_
  refine zeKn (c := 0) rfl rfl rfl ?_
  refine zeFB rfl rfl rfl (Or.inl rfl) ?_
  refine zeP rfl rfl ?_
  refine zeP rfl rfl ?_
  refine zeKn (c := 0) rfl rfl rfl ?_
  refine zeCF rfl rfl rfl rfl rfl rfl (c_of (m := (zm2 m 137 5 (Int32.ofNat 0))) (W := W) (t := t) (k := 0) (by first | assumption | omega)) (by first | exact zq_adn (by decide) | exact zq_adr (zq_adn (by decide)) | omega) ?_
  dsimp only [Option.toList, List.cons_append, List.nil_append]
  rw [show q_of W t 0 = Int32.ofNat (nv W (376 + 103 * t + 0)) from (hk.1.2 t ht).2.2.2.2.1.1]
  refine zeP rfl rfl ?_
  refine zeP rfl rfl ?_
  refine zeP rfl rfl ?_
  refine zeP rfl rfl ?_
  refine zeP rfl rfl ?_
  refine zeP rfl rfl ?_
  refine zeKn (c := 0) rfl rfl rfl ?_
  refine zeCF rfl rfl rfl rfl rfl rfl (c_deedOf (m := (zm2 m 137 5 (Int32.ofNat 0))) (W := W) (t := t) (p := (nv W (376 + 103 * t + 0))) (k := 0) (by have := (hk.deed ht).1; omega)) (by first | exact zq_adn (by decide) | exact zq_adr (zq_adn (by decide)) | omega) ?_
  dsimp only [Option.toList, List.cons_append, List.nil_append]
  rw [show q_deedOf W t (nv W (376 + 103 * t + 0)) 0 = Int32.ofNat (nv W (376 + 103 * t + (55 + 2 * nv W (376 + 103 * t + 0)))) from (hk.deed ht).2.1.1]
  refine zeP rfl rfl ?_
  refine zeP rfl rfl ?_
  refine zeP rfl rfl ?_
  refine zeKn (c := 1) rfl rfl rfl ?_
  refine zeCF rfl rfl rfl rfl rfl rfl (c_deedOf (m := (zm2 m 137 5 (Int32.ofNat 0))) (W := W) (t := t) (p := (nv W (376 + 103 * t + 0))) (k := 1) (by have := (hk.deed ht).1; omega)) (by first | exact zq_adn (by decide) | exact zq_adr (zq_adn (by decide)) | omega) ?_
  dsimp only [Option.toList, List.cons_append, List.nil_append]
  rw [show q_deedOf W t (nv W (376 + 103 * t + 0)) 1 = Int32.ofNat (nv W (376 + 103 * t + (55 + 2 * nv W (376 + 103 * t + 0) + 1))) from (hk.deed ht).2.2.1.1]
  refine zeCF rfl rfl rfl rfl rfl rfl (c_does (m := (zm2 m 137 5 (Int32.ofNat 0))) (W := W) (t := t) (K := (nv W (376 + 103 * t + (55 + 2 * nv W (376 + 103 * t + 0))))) (n := (nv W (376 + 103 * t + (55 + 2 * nv W (376 + 103 * t + 0) + 1)))) hk ht (Nat.lt_succ_of_le (hk.deed ht).2.1.2.2) (hk.deed ht).2.2.2.1 (hk.deed ht).2.2.2.2) (by first | exact zq_adn (by decide) | exact zq_adr (zq_adn (by decide)) | omega) ?_
  dsimp only [Option.toList, List.cons_append, List.nil_append]
  refine zeP rfl rfl ?_
  refine zeP rfl rfl ?_
  refine zeB1 rfl rfl (fun h1 => ?_) (fun h1 => ?_)
  · simp only [q_steps, h1, cond_true, cond_false]
    exact p_stepsE (t := t) (x2 := some (.int (Int32.ofNat (nv W (376 + 103 * t + 0))))) (on := (q_does ((zm2 m 137 5 (Int32.ofNat 0))) W t ((nv W (376 + 103 * t + (55 + 2 * nv W (376 + 103 * t + 0))))) ((nv W (376 + 103 * t + (55 + 2 * nv W (376 + 103 * t + 0) + 1))))).1) (W := (q_does ((zm2 m 137 5 (Int32.ofNat 0))) W t ((nv W (376 + 103 * t + (55 + 2 * nv W (376 + 103 * t + 0))))) ((nv W (376 + 103 * t + (55 + 2 * nv W (376 + 103 * t + 0) + 1))))).2.1) (m := (q_does ((zm2 m 137 5 (Int32.ofNat 0))) W t ((nv W (376 + 103 * t + (55 + 2 * nv W (376 + 103 * t + 0))))) ((nv W (376 + 103 * t + (55 + 2 * nv W (376 + 103 * t + 0) + 1))))).2.2) (by first | exact zq_adn (by decide) | exact zq_adr (zq_adn (by decide)) | omega) ht
  · refine zeP rfl rfl ?_
    refine zeGR rfl rfl zS137 rfl rfl ?_
    refine zeP rfl rfl ?_
    refine zeKn (c := 0) rfl rfl rfl ?_
    refine zeCF rfl rfl rfl rfl rfl rfl (c_at (m := (q_does ((zm2 m 137 5 (Int32.ofNat 0))) W t ((nv W (376 + 103 * t + (55 + 2 * nv W (376 + 103 * t + 0))))) ((nv W (376 + 103 * t + (55 + 2 * nv W (376 + 103 * t + 0) + 1))))).2.2) (W := (q_does ((zm2 m 137 5 (Int32.ofNat 0))) W t ((nv W (376 + 103 * t + (55 + 2 * nv W (376 + 103 * t + 0))))) ((nv W (376 + 103 * t + (55 + 2 * nv W (376 + 103 * t + 0) + 1))))).2.1) (t := t) (k := 0) ) (by first | exact zq_adn (by decide) | exact zq_adr (zq_adn (by decide)) | omega) ?_
    dsimp only [Option.toList, List.cons_append, List.nil_append]
    refine zeP rfl rfl ?_
    refine zeWL (k := (376 + 103 * t + 0)) rfl (by first | exact zq_adn (by decide) | exact zq_adr (zq_adn (by decide)) | omega) ?_
    refine zeKn (c := 1) rfl rfl rfl ?_
    refine zeP rfl rfl ?_
    refine zeWS (k := (376 + 103 * t + 0)) rfl (by first | exact zq_adn (by decide) | exact zq_adr (zq_adn (by decide)) | omega) ?_
    simp only [q_steps, h1, cond_true, cond_false]
    exact p_stepsD (t := t) (x2 := some (.int (Int32.ofNat (nv W (376 + 103 * t + 0))))) (on := (q_does ((zm2 m 137 5 (Int32.ofNat 0))) W t ((nv W (376 + 103 * t + (55 + 2 * nv W (376 + 103 * t + 0))))) ((nv W (376 + 103 * t + (55 + 2 * nv W (376 + 103 * t + 0) + 1))))).1) (W := (upd ((q_does ((zm2 m 137 5 (Int32.ofNat 0))) W t ((nv W (376 + 103 * t + (55 + 2 * nv W (376 + 103 * t + 0))))) ((nv W (376 + 103 * t + (55 + 2 * nv W (376 + 103 * t + 0) + 1))))).2.1) (376 + 103 * t + 0) ((((q_does ((zm2 m 137 5 (Int32.ofNat 0))) W t ((nv W (376 + 103 * t + (55 + 2 * nv W (376 + 103 * t + 0))))) ((nv W (376 + 103 * t + (55 + 2 * nv W (376 + 103 * t + 0) + 1))))).2.1) (376 + 103 * t + 0)) + (Int32.ofNat 1)))) (m := (q_does ((zm2 m 137 5 (Int32.ofNat 0))) W t ((nv W (376 + 103 * t + (55 + 2 * nv W (376 + 103 * t + 0))))) ((nv W (376 + 103 * t + (55 + 2 * nv W (376 + 103 * t + 0) + 1))))).2.2) (by first | exact zq_adn (by decide) | exact zq_adr (zq_adn (by decide)) | omega) ((does_ok (m := (zm2 m 137 5 (Int32.ofNat 0))) hk ht (Nat.lt_succ_of_le (hk.deed ht).2.1.2.2) (hk.deed ht).2.2.2.1 (hk.deed ht).2.2.2.2).1.adv ht) ht
theorem c_steps {σ : Nat → Nat × (Nat → Int32)} {yy : (Nat → Nat → Int64) × Bool × Nat × Nat} {m : Nat → Nat → Int32} {W : Nat → Int32} {t : Nat} (hk : KG W t) (ht : t < 4) : zF σ 9 1835 [.ref 137, .int (Int32.ofNat t)] (zS1, zrow m 138 W, yy) (.inl (some (.int (q_steps m W t).1))) (zS1, zrow ((q_steps m W t).2.2) 138 ((q_steps m W t).2.1), yy) := by
  intro d hd
  obtain ⟨d, rfl⟩ : ∃ k, d = k + 1 := ⟨d - 1, by omega⟩
  exact p_steps hd hk ht
