noncomputable def q_parts (m : Nat → Nat → Int32) (W : Nat → Int32) (t : Int32) : Int32 × (Nat → Nat → Int32) := (bif zc1 .eq (q_noThread m W t).1 then ((q_partsOf W ((t.toNatClampNeg))), (q_noThread m W t).2) else ((Int32.ofNat 0), (q_noThread m W t).2))
theorem p_parts {σ : Nat → Nat × (Nat → Int32)} {yy : (Nat → Nat → Int64) × Bool × Nat × Nat} {m : Nat → Nat → Int32} {W : Nat → Int32} {t : Int32} {d : Nat} (hd : 7 ≤ d + 1) (hw : WG W) : zEv σ (d + 1) 1901 0 [some (.ref 137), some (.int t)] [] (zS1, zrow m 138 W, yy) (.inl (some (.int (q_parts m W t).1))) (zS1, zrow ((q_parts m W t).2) 138 W, yy) := by
  refine zeP rfl rfl ?_
  refine zeP rfl rfl ?_
  refine zeCF rfl rfl rfl rfl rfl rfl (c_noThread (m := m) (W := W) (t := t) ) (by omega) ?_
  dsimp only [Option.toList, List.cons_append, List.nil_append]
  refine zeB1 rfl rfl (fun h1 => ?_) (fun h1 => ?_)
  · have ct : t = Int32.ofNat t.toNatClampNeg ∧ t.toNatClampNeg < nv W 9 := (nT_in hw (zneF (by assumption)))
    refine zeP rfl rfl ?_
    refine zeKn (c := t.toNatClampNeg) rfl rfl ct.1 ?_
    refine zeCF rfl rfl rfl rfl rfl rfl (c_partsOf (m := (q_noThread m W t).2) (W := W) (t := (t.toNatClampNeg)) hw (by have := hw.N4; omega)) (by omega) ?_
    dsimp only [Option.toList, List.cons_append, List.nil_append]
    exact zeRe rfl rfl rfl rfl (by simp only [q_parts, h1, cond_true, cond_false] <;> rfl) (by simp only [q_parts, h1, cond_true, cond_false] <;> rfl)
  · refine zeKn (c := 0) rfl rfl rfl ?_
    refine zeP rfl rfl ?_
    exact zeRe rfl rfl rfl rfl (by simp only [q_parts, h1, cond_true, cond_false] <;> rfl) (by simp only [q_parts, h1, cond_true, cond_false] <;> rfl)
