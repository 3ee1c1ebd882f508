noncomputable def q_steps (m : Nat → Nat → Int32) (W : Nat → Int32) (t : Nat) : Int32 × (Nat → Int32) × (Nat → Nat → Int32) := (bif zc1 .eq (q_does ((zm2 m 137 5 (Int32.ofNat 0))) W t ((nv W (376 + 103 * t + (55 + 2 * nv W (376 + 103 * t + 0))))) ((nv W (376 + 103 * t + (55 + 2 * nv W (376 + 103 * t + 0) + 1))))).1 then ((q_stepsE ((q_does ((zm2 m 137 5 (Int32.ofNat 0))) W t ((nv W (376 + 103 * t + (55 + 2 * nv W (376 + 103 * t + 0))))) ((nv W (376 + 103 * t + (55 + 2 * nv W (376 + 103 * t + 0) + 1))))).2.2) ((q_does ((zm2 m 137 5 (Int32.ofNat 0))) W t ((nv W (376 + 103 * t + (55 + 2 * nv W (376 + 103 * t + 0))))) ((nv W (376 + 103 * t + (55 + 2 * nv W (376 + 103 * t + 0) + 1))))).2.1) t ((q_does ((zm2 m 137 5 (Int32.ofNat 0))) W t ((nv W (376 + 103 * t + (55 + 2 * nv W (376 + 103 * t + 0))))) ((nv W (376 + 103 * t + (55 + 2 * nv W (376 + 103 * t + 0) + 1))))).1)).1, (q_stepsE ((q_does ((zm2 m 137 5 (Int32.ofNat 0))) W t ((nv W (376 + 103 * t + (55 + 2 * nv W (376 + 103 * t + 0))))) ((nv W (376 + 103 * t + (55 + 2 * nv W (376 + 103 * t + 0) + 1))))).2.2) ((q_does ((zm2 m 137 5 (Int32.ofNat 0))) W t ((nv W (376 + 103 * t + (55 + 2 * nv W (376 + 103 * t + 0))))) ((nv W (376 + 103 * t + (55 + 2 * nv W (376 + 103 * t + 0) + 1))))).2.1) t ((q_does ((zm2 m 137 5 (Int32.ofNat 0))) W t ((nv W (376 + 103 * t + (55 + 2 * nv W (376 + 103 * t + 0))))) ((nv W (376 + 103 * t + (55 + 2 * nv W (376 + 103 * t + 0) + 1))))).1)).2, (q_does ((zm2 m 137 5 (Int32.ofNat 0))) W t ((nv W (376 + 103 * t + (55 + 2 * nv W (376 + 103 * t + 0))))) ((nv W (376 + 103 * t + (55 + 2 * nv W (376 + 103 * t + 0) + 1))))).2.2) else (q_stepsD ((q_does ((zm2 m 137 5 (Int32.ofNat 0))) W t ((nv W (376 + 103 * t + (55 + 2 * nv W (376 + 103 * t + 0))))) ((nv W (376 + 103 * t + (55 + 2 * nv W (376 + 103 * t + 0) + 1))))).2.2) ((upd ((q_does ((zm2 m 137 5 (Int32.ofNat 0))) W t ((nv W (376 + 103 * t + (55 + 2 * nv W (376 + 103 * t + 0))))) ((nv W (376 + 103 * t + (55 + 2 * nv W (376 + 103 * t + 0) + 1))))).2.1) (376 + 103 * t + 0) ((((q_does ((zm2 m 137 5 (Int32.ofNat 0))) W t ((nv W (376 + 103 * t + (55 + 2 * nv W (376 + 103 * t + 0))))) ((nv W (376 + 103 * t + (55 + 2 * nv W (376 + 103 * t + 0) + 1))))).2.1) (376 + 103 * t + 0)) + (Int32.ofNat 1)))) t ((q_does ((zm2 m 137 5 (Int32.ofNat 0))) W t ((nv W (376 + 103 * t + (55 + 2 * nv W (376 + 103 * t + 0))))) ((nv W (376 + 103 * t + (55 + 2 * nv W (376 + 103 * t + 0) + 1))))).1)))
theorem p_steps {σ : Nat → Nat × (Nat → Int32)} {yy : (Nat → Nat → Int64) × Bool × Nat × Nat} {m : Nat → Nat → Int32} {W : Nat → Int32} {t : Nat} {d : Nat} (hd : 9 ≤ d + 1) (hk : KG W t) (ht : t < 4) : zEv σ (d + 1) 1835 0 [some (.ref 137), some (.int (Int32.ofNat t)), none, none] [] (zS1, zrow m 138 W, yy) (.inl (some (.int (q_steps m W t).1))) (zS1, zrow ((q_steps m W t).2.2) 138 ((q_steps m W t).2.1), yy) := by
  refine zeP rfl rfl ?_
  refine zeKn (c := 0) rfl rfl rfl ?_
  refine zeFB rfl rfl rfl (Or.inl rfl) ?_
  refine zeP rfl rfl ?_
  refine zeP rfl rfl ?_
  refine zeKn (c := 0) rfl rfl rfl ?_
  refine zeCF rfl rfl rfl rfl rfl rfl (c_of (m := (zm2 m 137 5 (Int32.ofNat 0))) (W := W) (t := t) (k := 0) (by first | assumption | omega)) (by omega) ?_
  dsimp only [Option.toList, List.cons_append, List.nil_append]
  rw [show q_of W t 0 = Int32.ofNat (nv W (376 + 103 * t + 0)) from (hk.1.2 t ht).2.2.2.2.1.1]
  refine zeP rfl rfl ?_
  refine zeP rfl rfl ?_
  refine zeP rfl rfl ?_
  refine zeP rfl rfl ?_
  refine zeP rfl rfl ?_
  refine zeP rfl rfl ?_
  refine zeKn (c := 0) rfl rfl rfl ?_
  refine zeCF rfl rfl rfl rfl rfl rfl (c_deedOf (m := (zm2 m 137 5 (Int32.ofNat 0))) (W := W) (t := t) (p := (nv W (376 + 103 * t + 0))) (k := 0) (by have := (hk.deed ht).1; omega)) (by omega) ?_
  dsimp only [Option.toList, List.cons_append, List.nil_append]
  rw [show q_deedOf W t (nv W (376 + 103 * t + 0)) 0 = Int32.ofNat (nv W (376 + 103 * t + (55 + 2 * nv W (376 + 103 * t + 0)))) from (hk.deed ht).2.1.1]
  refine zeP rfl rfl ?_
  refine zeP rfl rfl ?_
  refine zeP rfl rfl ?_
  refine zeKn (c := 1) rfl rfl rfl ?_
  refine zeCF rfl rfl rfl rfl rfl rfl (c_deedOf (m := (zm2 m 137 5 (Int32.ofNat 0))) (W := W) (t := t) (p := (nv W (376 + 103 * t + 0))) (k := 1) (by have := (hk.deed ht).1; omega)) (by omega) ?_
  dsimp only [Option.toList, List.cons_append, List.nil_append]
  rw [show q_deedOf W t (nv W (376 + 103 * t + 0)) 1 = Int32.ofNat (nv W (376 + 103 * t + (55 + 2 * nv W (376 + 103 * t + 0) + 1))) from (hk.deed ht).2.2.1.1]
  refine zeCF rfl rfl rfl rfl rfl rfl (c_does (m := (zm2 m 137 5 (Int32.ofNat 0))) (W := W) (t := t) (K := (nv W (376 + 103 * t + (55 + 2 * nv W (376 + 103 * t + 0))))) (n := (nv W (376 + 103 * t + (55 + 2 * nv W (376 + 103 * t + 0) + 1)))) hk ht (Nat.lt_succ_of_le (hk.deed ht).2.1.2.2) (hk.deed ht).2.2.2.1 (hk.deed ht).2.2.2.2) (by omega) ?_
  dsimp only [Option.toList, List.cons_append, List.nil_append]
  refine zeP rfl rfl ?_
  refine zeP rfl rfl ?_
  refine zeB1 rfl rfl (fun h1 => ?_) (fun h1 => ?_)
  · simp only [q_steps, h1, cond_true, cond_false]
    exact p_stepsE (t := t) (x2 := some (.int (Int32.ofNat (nv W (376 + 103 * t + 0))))) (on := (q_does ((zm2 m 137 5 (Int32.ofNat 0))) W t ((nv W (376 + 103 * t + (55 + 2 * nv W (376 + 103 * t + 0))))) ((nv W (376 + 103 * t + (55 + 2 * nv W (376 + 103 * t + 0) + 1))))).1) (W := (q_does ((zm2 m 137 5 (Int32.ofNat 0))) W t ((nv W (376 + 103 * t + (55 + 2 * nv W (376 + 103 * t + 0))))) ((nv W (376 + 103 * t + (55 + 2 * nv W (376 + 103 * t + 0) + 1))))).2.1) (m := (q_does ((zm2 m 137 5 (Int32.ofNat 0))) W t ((nv W (376 + 103 * t + (55 + 2 * nv W (376 + 103 * t + 0))))) ((nv W (376 + 103 * t + (55 + 2 * nv W (376 + 103 * t + 0) + 1))))).2.2) (by omega) ht
  · refine zeP rfl rfl ?_
    refine zeGR rfl rfl zS137 rfl rfl ?_
    refine zeP rfl rfl ?_
    refine zeKn (c := 0) rfl rfl rfl ?_
    refine zeCF rfl rfl rfl rfl rfl rfl (c_at (m := (q_does ((zm2 m 137 5 (Int32.ofNat 0))) W t ((nv W (376 + 103 * t + (55 + 2 * nv W (376 + 103 * t + 0))))) ((nv W (376 + 103 * t + (55 + 2 * nv W (376 + 103 * t + 0) + 1))))).2.2) (W := (q_does ((zm2 m 137 5 (Int32.ofNat 0))) W t ((nv W (376 + 103 * t + (55 + 2 * nv W (376 + 103 * t + 0))))) ((nv W (376 + 103 * t + (55 + 2 * nv W (376 + 103 * t + 0) + 1))))).2.1) (t := t) (k := 0) ) (by omega) ?_
    dsimp only [Option.toList, List.cons_append, List.nil_append]
    refine zeP rfl rfl ?_
    refine zeWL (k := (376 + 103 * t + 0)) rfl (by omega) ?_
    refine zeKn (c := 1) rfl rfl rfl ?_
    refine zeP rfl rfl ?_
    refine zeWS (k := (376 + 103 * t + 0)) rfl (by omega) ?_
    simp only [q_steps, h1, cond_true, cond_false]
    exact p_stepsD (t := t) (x2 := some (.int (Int32.ofNat (nv W (376 + 103 * t + 0))))) (on := (q_does ((zm2 m 137 5 (Int32.ofNat 0))) W t ((nv W (376 + 103 * t + (55 + 2 * nv W (376 + 103 * t + 0))))) ((nv W (376 + 103 * t + (55 + 2 * nv W (376 + 103 * t + 0) + 1))))).1) (W := (upd ((q_does ((zm2 m 137 5 (Int32.ofNat 0))) W t ((nv W (376 + 103 * t + (55 + 2 * nv W (376 + 103 * t + 0))))) ((nv W (376 + 103 * t + (55 + 2 * nv W (376 + 103 * t + 0) + 1))))).2.1) (376 + 103 * t + 0) ((((q_does ((zm2 m 137 5 (Int32.ofNat 0))) W t ((nv W (376 + 103 * t + (55 + 2 * nv W (376 + 103 * t + 0))))) ((nv W (376 + 103 * t + (55 + 2 * nv W (376 + 103 * t + 0) + 1))))).2.1) (376 + 103 * t + 0)) + (Int32.ofNat 1)))) (m := (q_does ((zm2 m 137 5 (Int32.ofNat 0))) W t ((nv W (376 + 103 * t + (55 + 2 * nv W (376 + 103 * t + 0))))) ((nv W (376 + 103 * t + (55 + 2 * nv W (376 + 103 * t + 0) + 1))))).2.2) (by omega) ((does_ok (m := (zm2 m 137 5 (Int32.ofNat 0))) hk ht (Nat.lt_succ_of_le (hk.deed ht).2.1.2.2) (hk.deed ht).2.2.2.1 (hk.deed ht).2.2.2.2).1.adv ht) ht
