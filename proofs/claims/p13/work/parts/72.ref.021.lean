noncomputable def q_dueBy (m : Nat → Nat → Int32) (W : Nat → Int32) (b : Nat) : Int32 × (Nat → Int32) × (Nat → Nat → Int32) := ((q_dueOfX ((zrow m 140 (crow W (m 140)))) ((upd W 4 (Int32.ofNat b)))).1, (crow (((q_dueOfX ((zrow m 140 (crow W (m 140)))) ((upd W 4 (Int32.ofNat b)))).2.2) 140) ((q_dueOfX ((zrow m 140 (crow W (m 140)))) ((upd W 4 (Int32.ofNat b)))).2.1)), (q_dueOfX ((zrow m 140 (crow W (m 140)))) ((upd W 4 (Int32.ofNat b)))).2.2)
theorem p_dueBy {σ : Nat → Nat × (Nat → Int32)} {yy : (Nat → Nat → Int64) × Bool × Nat × Nat} {m : Nat → Nat → Int32} {W : Nat → Int32} {b : Nat} {d : Nat} (hd : 12 ≤ d + 1) (hw : WG W) (hL : LT W) : zEv σ (d + 1) 1891 0 [some (.ref 137), some (.int (Int32.ofNat b)), none] [] (zS1, zrow m 138 W, yy) (.inl (some (.int (q_dueBy m W b).1))) (zS1, zrow ((q_dueBy m W b).2.2) 138 ((q_dueBy m W b).2.1), yy) := by
  refine zeP rfl rfl ?_
  refine zeGR rfl rfl zS137 rfl rfl ?_
  refine zeP rfl rfl ?_
  refine zeGR rfl rfl zS137 rfl rfl ?_
  refine zeCF rfl rfl rfl rfl rfl rfl (c_cpF (m := m) (W := W) (b := 140) (by decide) rfl) (by omega) ?_
  dsimp only [Option.toList, List.cons_append, List.nil_append]
  refine zeP rfl rfl ?_
  refine zeGR rfl rfl zS137 rfl rfl ?_
  refine zeKn (c := 4) rfl rfl rfl ?_
  refine zeP rfl rfl ?_
  refine zeWS (k := 4) rfl (by omega) ?_
  refine zeP rfl rfl ?_
  refine zeK (v := -1) rfl rfl rfl ?_
  refine zeCF rfl rfl rfl rfl rfl rfl (c_dueOfX (m := (zrow m 140 (crow W (m 140)))) (W := (upd W 4 (Int32.ofNat b)))  (hw.need _) (hL.put _ (by omega))) (by omega) ?_
  dsimp only [Option.toList, List.cons_append, List.nil_append]
  refine zeP rfl rfl ?_
  refine zeP rfl rfl ?_
  refine zeGR rfl rfl zS137 rfl rfl ?_
  refine zeP rfl rfl ?_
  refine zeGR rfl rfl zS137 rfl rfl ?_
  refine zeCF rfl rfl rfl rfl rfl rfl (c_cpB (m := (q_dueOfX ((zrow m 140 (crow W (m 140)))) ((upd W 4 (Int32.ofNat b)))).2.2) (W := (q_dueOfX ((zrow m 140 (crow W (m 140)))) ((upd W 4 (Int32.ofNat b)))).2.1) (b := 140) (by decide) rfl rfl) (by omega) ?_
  dsimp only [Option.toList, List.cons_append, List.nil_append]
  refine zeP rfl rfl ?_
  exact zeRe rfl rfl rfl rfl (by rfl) (by rfl)
