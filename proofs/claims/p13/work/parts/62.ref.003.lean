noncomputable def q_stepsE (m : Nat → Nat → Int32) (W : Nat → Int32) (t : Nat) (on : Int32) : Int32 × (Nat → Int32) := (bif zc1 .eq (m 137 5) then (bif zc1 .eq on then ((Int32.ofNat 0), (upd ((upd W 12 (Int32.ofNat t))) 11 ((((upd W 12 (Int32.ofNat t))) 11) + (Int32.ofNat 1)))) else ((Int32.ofNat 1), (upd ((upd W 12 (Int32.ofNat t))) 11 ((((upd W 12 (Int32.ofNat t))) 11) + (Int32.ofNat 1))))) else ((-1), (upd ((upd W 12 (Int32.ofNat t))) 11 ((((upd W 12 (Int32.ofNat t))) 11) + (Int32.ofNat 1)))))
theorem p_stepsE {σ : Nat → Nat × (Nat → Int32)} {yy : (Nat → Nat → Int64) × Bool × Nat × Nat} {m : Nat → Nat → Int32} {W : Nat → Int32} {t : Nat} {x2 : Option Value} {on : Int32} {d : Nat} (hd : 1 ≤ d + 1) (ht : t < 4) : zEv σ (d + 1) 1835 93 [some (.ref 137), some (.int (Int32.ofNat t)), x2, some (.int on)] [] (zS1, zrow m 138 W, yy) (.inl (some (.int (q_stepsE m W t on).1))) (zS1, zrow m 138 ((q_stepsE m W t on).2), yy) := by
  refine zeP rfl rfl ?_
  refine zeGR rfl rfl zS137 rfl rfl ?_
  refine zeKn (c := 12) rfl rfl rfl ?_
  refine zeP rfl rfl ?_
  refine zeWS (k := 12) rfl (by omega) ?_
  refine zeP rfl rfl ?_
  refine zeGR rfl rfl zS137 rfl rfl ?_
  refine zeKn (c := 11) rfl rfl rfl ?_
  refine zeP rfl rfl ?_
  refine zeWL (k := 11) rfl (by omega) ?_
  refine zeKn (c := 1) rfl rfl rfl ?_
  refine zeP rfl rfl ?_
  refine zeWS (k := 11) rfl (by omega) ?_
  refine zeP rfl rfl ?_
  refine zeFI rfl rfl rfl rfl ?_
  refine zeB1 rfl rfl (fun h1 => ?_) (fun h1 => ?_)
  · refine zeP rfl rfl ?_
    refine zeB1 rfl rfl (fun h2 => ?_) (fun h2 => ?_)
    · refine zeKn (c := 0) rfl rfl rfl ?_
      exact zeRe rfl rfl rfl rfl (by simp only [q_stepsE, h1, h2, cond_true, cond_false] <;> rfl) (by simp only [q_stepsE, h1, h2, cond_true, cond_false] <;> rfl)
    · refine zeKn (c := 1) rfl rfl rfl ?_
      refine zeP rfl rfl ?_
      exact zeRe rfl rfl rfl rfl (by simp only [q_stepsE, h1, h2, cond_true, cond_false] <;> rfl) (by simp only [q_stepsE, h1, h2, cond_true, cond_false] <;> rfl)
  · refine zeK (v := -1) rfl rfl rfl ?_
    refine zeP rfl rfl ?_
    exact zeRe rfl rfl rfl rfl (by simp only [q_stepsE, h1, cond_true, cond_false] <;> rfl) (by simp only [q_stepsE, h1, cond_true, cond_false] <;> rfl)
