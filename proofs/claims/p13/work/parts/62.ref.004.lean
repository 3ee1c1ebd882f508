noncomputable def q_stepsD (m : Nat → Nat → Int32) (W : Nat → Int32) (t : Nat) (on : Int32) : Int32 × (Nat → Int32) × (Nat → Nat → Int32) := (bif zc1 .eq (q_isDone W t) then ((q_stepsE m W t on).1, (q_stepsE m W t on).2, m) else (bif zc2 .ne (q_of W t 2) (Int32.ofNat 1) then ((q_stepsE m ((q_logs W ((Int32.ofNat t)) ((Int32.ofNat 6)) ((Int32.ofNat 0)))) t on).1, (q_stepsE m ((q_logs W ((Int32.ofNat t)) ((Int32.ofNat 6)) ((Int32.ofNat 0)))) t on).2, m) else ((q_stepsE ((q_itFalls m W t 2).2) ((q_itFalls m W t 2).1) t on).1, (q_stepsE ((q_itFalls m W t 2).2) ((q_itFalls m W t 2).1) t on).2, (q_itFalls m W t 2).2)))
theorem p_stepsD {σ : Nat → Nat × (Nat → Int32)} {yy : (Nat → Nat → Int64) × Bool × Nat × Nat} {m : Nat → Nat → Int32} {W : Nat → Int32} {t : Nat} {x2 : Option Value} {on : Int32} {d : Nat} (hd : 5 ≤ d + 1) (hw : WG W) (ht : t < 4) : zEv σ (d + 1) 1835 50 [some (.ref 137), some (.int (Int32.ofNat t)), x2, some (.int on)] [] (zS1, zrow m 138 W, yy) (.inl (some (.int (q_stepsD m W t on).1))) (zS1, zrow ((q_stepsD m W t on).2.2) 138 ((q_stepsD m W t on).2.1), yy) := by
  refine zeP rfl rfl ?_
  refine zeP rfl rfl ?_
  refine zeCF rfl rfl rfl rfl rfl rfl (c_isDone (m := m) (W := W) (t := t) ht) (by omega) ?_
  dsimp only [Option.toList, List.cons_append, List.nil_append]
  refine zeB1 rfl rfl (fun h1 => ?_) (fun h1 => ?_)
  · refine zeP rfl rfl ?_
    refine zeP rfl rfl ?_
    refine zeCF rfl rfl rfl rfl rfl rfl (c_isDone (m := m) (W := W) (t := t) ht) (by omega) ?_
    dsimp only [Option.toList, List.cons_append, List.nil_append]
    refine zeT1 rfl rfl h1 ?_
    simp only [q_stepsD, h1, cond_true, cond_false]
    exact p_stepsE (t := t) (x2 := x2) (on := on) (W := W) (m := m) (by omega) ht
  · refine zeP rfl rfl ?_
    refine zeP rfl rfl ?_
    refine zeKn (c := 2) rfl rfl rfl ?_
    refine zeCF rfl rfl rfl rfl rfl rfl (c_of (m := m) (W := W) (t := t) (k := 2) (by first | assumption | omega)) (by omega) ?_
    dsimp only [Option.toList, List.cons_append, List.nil_append]
    refine zeKn (c := 1) rfl rfl rfl ?_
    refine zeB2 rfl rfl (fun h2 => ?_) (fun h2 => ?_)
    · refine zeP rfl rfl ?_
      refine zeP rfl rfl ?_
      refine zeCF rfl rfl rfl rfl rfl rfl (c_isDone (m := m) (W := W) (t := t) ht) (by omega) ?_
      dsimp only [Option.toList, List.cons_append, List.nil_append]
      refine zeF1 rfl rfl h1 ?_
      refine zeP rfl rfl ?_
      refine zeP rfl rfl ?_
      refine zeKn (c := 6) rfl rfl rfl ?_
      refine zeKn (c := 0) rfl rfl rfl ?_
      refine zeCF rfl rfl rfl rfl rfl rfl (c_logs (m := m) (W := W) (t := (Int32.ofNat t)) (w := (Int32.ofNat 6)) (v := (Int32.ofNat 0)) hw.C.1 hw.C.2) (by omega) ?_
      dsimp only [Option.toList, List.cons_append, List.nil_append]
      simp only [q_stepsD, h1, h2, cond_true, cond_false]
      exact p_stepsE (t := t) (x2 := x2) (on := on) (W := (q_logs W ((Int32.ofNat t)) ((Int32.ofNat 6)) ((Int32.ofNat 0)))) (m := m) (by omega) ht
    · refine zeP rfl rfl ?_
      refine zeP rfl rfl ?_
      refine zeKn (c := 2) rfl rfl rfl ?_
      refine zeCF rfl rfl rfl rfl rfl rfl (c_itFalls (m := m) (W := W) (t := t) (y := 2) ht (by omega) (hw.L t ht).1 (hw.L t ht).2 hw.C.1 hw.C.2) (by omega) ?_
      dsimp only [Option.toList, List.cons_append, List.nil_append]
      refine zeP rfl rfl ?_
      simp only [q_stepsD, h1, h2, cond_true, cond_false]
      exact p_stepsE (t := t) (x2 := x2) (on := on) (W := (q_itFalls m W t 2).1) (m := (q_itFalls m W t 2).2) (by omega) ht
