noncomputable def q_due (m : Nat → Nat → Int32) (W : Nat → Int32) (t : Int32) : Int32 × (Nat → Int32) × (Nat → Nat → Int32) := (bif zc1 .eq (q_noThread m W t).1 then ((q_dueOf ((zrow ((q_noThread m W t).2) 140 (crow W (((q_noThread m W t).2) 140)))) W ((t.toNatClampNeg))).1, (crow (((q_dueOf ((zrow ((q_noThread m W t).2) 140 (crow W (((q_noThread m W t).2) 140)))) W ((t.toNatClampNeg))).2.2) 140) ((q_dueOf ((zrow ((q_noThread m W t).2) 140 (crow W (((q_noThread m W t).2) 140)))) W ((t.toNatClampNeg))).2.1)), (q_dueOf ((zrow ((q_noThread m W t).2) 140 (crow W (((q_noThread m W t).2) 140)))) W ((t.toNatClampNeg))).2.2) else ((Int32.ofNat 0), W, (q_noThread m W t).2))
theorem p_due {σ : Nat → Nat × (Nat → Int32)} {yy : (Nat → Nat → Int64) × Bool × Nat × Nat} {m : Nat → Nat → Int32} {W : Nat → Int32} {t : Int32} {d : Nat} (hd : 12 ≤ d + 1) (hw : WG W) (hL : LT W) : zEv σ (d + 1) 1890 0 [some (.ref 137), some (.int t), none] [] (zS1, zrow m 138 W, yy) (.inl (some (.int (q_due m W t).1))) (zS1, zrow ((q_due m W t).2.2) 138 ((q_due m W t).2.1), yy) := by
  refine zeP rfl rfl ?_
  refine zeP rfl rfl ?_
  refine zeCF rfl rfl rfl rfl rfl rfl (c_noThread (m := m) (W := W) (t := t) ) (by omega) ?_
  dsimp only [Option.toList, List.cons_append, List.nil_append]
  refine zeB1 rfl rfl (fun h1 => ?_) (fun h1 => ?_)
  · have ct : t = Int32.ofNat t.toNatClampNeg ∧ t.toNatClampNeg < nv W 9 := (nT_in hw (zneF (by assumption)))
    refine zeP rfl rfl ?_
    refine zeGR rfl rfl zS137 rfl rfl ?_
    refine zeP rfl rfl ?_
    refine zeGR rfl rfl zS137 rfl rfl ?_
    refine zeCF rfl rfl rfl rfl rfl rfl (c_cpF (m := (q_noThread m W t).2) (W := W) (b := 140) (by decide) rfl) (by omega) ?_
    dsimp only [Option.toList, List.cons_append, List.nil_append]
    refine zeP rfl rfl ?_
    refine zeKn (c := t.toNatClampNeg) rfl rfl ct.1 ?_
    refine zeCF rfl rfl rfl rfl rfl rfl (c_dueOf (m := (zrow ((q_noThread m W t).2) 140 (crow W (((q_noThread m W t).2) 140)))) (W := W) (t := (t.toNatClampNeg)) hw hL (by have := hw.N4; omega)) (by omega) ?_
    dsimp only [Option.toList, List.cons_append, List.nil_append]
    refine zeP rfl rfl ?_
    refine zeP rfl rfl ?_
    refine zeGR rfl rfl zS137 rfl rfl ?_
    refine zeP rfl rfl ?_
    refine zeGR rfl rfl zS137 rfl rfl ?_
    refine zeCF rfl rfl rfl rfl rfl rfl (c_cpB (m := (q_dueOf ((zrow ((q_noThread m W t).2) 140 (crow W (((q_noThread m W t).2) 140)))) W ((t.toNatClampNeg))).2.2) (W := (q_dueOf ((zrow ((q_noThread m W t).2) 140 (crow W (((q_noThread m W t).2) 140)))) W ((t.toNatClampNeg))).2.1) (b := 140) (by decide) rfl rfl) (by omega) ?_
    dsimp only [Option.toList, List.cons_append, List.nil_append]
    refine zeP rfl rfl ?_
    exact zeRe rfl rfl rfl rfl (by simp only [q_due, h1, cond_true, cond_false] <;> rfl) (by simp only [q_due, h1, cond_true, cond_false] <;> rfl)
  · refine zeKn (c := 0) rfl rfl rfl ?_
    exact zeRe rfl rfl rfl rfl (by simp only [q_due, h1, cond_true, cond_false] <;> rfl) (by simp only [q_due, h1, cond_true, cond_false] <;> rfl)
