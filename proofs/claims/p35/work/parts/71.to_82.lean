/-! 71.ref 72.ref 73.ref 80.shape 81.cls 82.cls -/
section
noncomputable def l_touched (W : Nat → Int32) (t : Nat) (a : Int32) (b : Int32) (c : Int32) : Nat → Int32 → Nat → Int32
  | 0, s, k => s
  | n + 1, s, k => (bif zc2 .ne (Int32.ofNat (nv W (376 + 103 * t + (55 + 2 * k)))) (Int32.ofNat 2) then (bif zc2 .ne (Int32.ofNat (nv W (376 + 103 * t + (55 + 2 * k)))) (Int32.ofNat 3) then (bif zc2 .gt (Int32.ofNat (nv W (376 + 103 * t + (55 + 2 * k)))) (Int32.ofNat 1) then (l_touched W t a b c n s ((k + 1))) else (bif zc1 .eq c then (l_touched W t a b c n s ((k + 1))) else (l_touched W t a b c n ((s ||| (q_blockOf W ((W (16 + (nv W (376 + 103 * t + (55 + 2 * k + 1))))))))) ((k + 1))))) else (bif zc1 .eq a then (bif zc2 .gt (Int32.ofNat (nv W (376 + 103 * t + (55 + 2 * k)))) (Int32.ofNat 1) then (l_touched W t a b c n s ((k + 1))) else (bif zc1 .eq c then (l_touched W t a b c n s ((k + 1))) else (l_touched W t a b c n ((s ||| (q_blockOf W ((W (16 + (nv W (376 + 103 * t + (55 + 2 * k + 1))))))))) ((k + 1))))) else (bif zc2 .gt (Int32.ofNat (nv W (376 + 103 * t + (55 + 2 * k)))) (Int32.ofNat 1) then (l_touched W t a b c n ((s ||| (q_blockOf W ((Int32.ofNat (nv W (376 + 103 * t + (55 + 2 * k + 1)))))))) ((k + 1))) else (bif zc1 .eq c then (l_touched W t a b c n ((s ||| (q_blockOf W ((Int32.ofNat (nv W (376 + 103 * t + (55 + 2 * k + 1)))))))) ((k + 1))) else (l_touched W t a b c n (((s ||| (q_blockOf W ((Int32.ofNat (nv W (376 + 103 * t + (55 + 2 * k + 1))))))) ||| (q_blockOf W ((W (16 + (nv W (376 + 103 * t + (55 + 2 * k + 1))))))))) ((k + 1))))))) else (bif zc1 .ne b then (bif zc2 .gt (Int32.ofNat (nv W (376 + 103 * t + (55 + 2 * k)))) (Int32.ofNat 1) then (l_touched W t a b c n ((s ||| (q_blockOf W ((Int32.ofNat (nv W (376 + 103 * t + (55 + 2 * k + 1)))))))) ((k + 1))) else (bif zc1 .eq c then (l_touched W t a b c n ((s ||| (q_blockOf W ((Int32.ofNat (nv W (376 + 103 * t + (55 + 2 * k + 1)))))))) ((k + 1))) else (l_touched W t a b c n (((s ||| (q_blockOf W ((Int32.ofNat (nv W (376 + 103 * t + (55 + 2 * k + 1))))))) ||| (q_blockOf W ((W (16 + (nv W (376 + 103 * t + (55 + 2 * k + 1))))))))) ((k + 1))))) else (bif zc2 .ne (Int32.ofNat (nv W (376 + 103 * t + (55 + 2 * k)))) (Int32.ofNat 3) then (bif zc2 .gt (Int32.ofNat (nv W (376 + 103 * t + (55 + 2 * k)))) (Int32.ofNat 1) then (l_touched W t a b c n s ((k + 1))) else (bif zc1 .eq c then (l_touched W t a b c n s ((k + 1))) else (l_touched W t a b c n ((s ||| (q_blockOf W ((W (16 + (nv W (376 + 103 * t + (55 + 2 * k + 1))))))))) ((k + 1))))) else (bif zc1 .eq a then (bif zc2 .gt (Int32.ofNat (nv W (376 + 103 * t + (55 + 2 * k)))) (Int32.ofNat 1) then (l_touched W t a b c n s ((k + 1))) else (bif zc1 .eq c then (l_touched W t a b c n s ((k + 1))) else (l_touched W t a b c n ((s ||| (q_blockOf W ((W (16 + (nv W (376 + 103 * t + (55 + 2 * k + 1))))))))) ((k + 1))))) else (bif zc2 .gt (Int32.ofNat (nv W (376 + 103 * t + (55 + 2 * k)))) (Int32.ofNat 1) then (l_touched W t a b c n ((s ||| (q_blockOf W ((Int32.ofNat (nv W (376 + 103 * t + (55 + 2 * k + 1)))))))) ((k + 1))) else (bif zc1 .eq c then (l_touched W t a b c n ((s ||| (q_blockOf W ((Int32.ofNat (nv W (376 + 103 * t + (55 + 2 * k + 1)))))))) ((k + 1))) else (l_touched W t a b c n (((s ||| (q_blockOf W ((Int32.ofNat (nv W (376 + 103 * t + (55 + 2 * k + 1))))))) ||| (q_blockOf W ((W (16 + (nv W (376 + 103 * t + (55 + 2 * k + 1))))))))) ((k + 1)))))))))
theorem w_touched {σ : Nat → Nat × (Nat → Int32)} {yy : (Nat → Nat → Int64) × Bool × Nat × Nat} {m : Nat → Nat → Int32} {W : Nat → Int32} {t : Nat} {a : Int32} {b : Int32} {c : Int32} {d : Nat} (hd : 4 ≤ d + 1) (hw : WG W) (ht : t < 4) (h24 : nv W (376 + 103 * t + 22) ≤ 24) : ∀ (n : Nat) (s : Int32) (k : Nat) (x7 : Option Value) (x8 : Option Value), k + n = nv W (376 + 103 * t + 22) → zEv σ (d + 1) 1894 6 [some (.ref 137), some (.int (Int32.ofNat t)), some (.int a), some (.int b), some (.int c), some (.int s), some (.int (Int32.ofNat k)), x7, x8] [] (zS1, zrow m 138 W, yy) (.inl (some (.int (l_touched W t a b c n s k)))) (zS1, zrow m 138 W, yy) := by
  intro n
  induction n with
  | zero =>
    intro s k x7 x8 hk
    refine zeP rfl rfl ?_
    refine zeP rfl rfl ?_
    refine zeP rfl rfl ?_
    refine zeKn (c := 22) rfl rfl rfl ?_
    refine zeCF rfl rfl rfl rfl rfl rfl (c_of (m := m) (W := W) (t := t) (k := 22) (by first | assumption | omega)) (by omega) ?_
    dsimp only [Option.toList, List.cons_append, List.nil_append]
    rw [show q_of W t 22 = Int32.ofNat (nv W (376 + 103 * t + 22)) from (hw.2 t ht).2.2.2.1.1]
    refine zeT2 rfl rfl (zcge (by omega) (by omega) (by omega)) ?_
    refine zeP rfl rfl ?_
    exact zeRe rfl rfl rfl rfl (by rfl) (by rfl)
  | succ n ih =>
    intro s k x7 x8 hk
    refine zeP rfl rfl ?_
    refine zeP rfl rfl ?_
    refine zeP rfl rfl ?_
    refine zeKn (c := 22) rfl rfl rfl ?_
    refine zeCF rfl rfl rfl rfl rfl rfl (c_of (m := m) (W := W) (t := t) (k := 22) (by first | assumption | omega)) (by omega) ?_
    dsimp only [Option.toList, List.cons_append, List.nil_append]
    rw [show q_of W t 22 = Int32.ofNat (nv W (376 + 103 * t + 22)) from (hw.2 t ht).2.2.2.1.1]
    refine zeF2 rfl rfl (zcge_f (by omega) (by omega) (by omega)) ?_
    refine zeP rfl rfl ?_
    refine zeP rfl rfl ?_
    refine zeP rfl rfl ?_
    refine zeKn (c := 0) rfl rfl rfl ?_
    refine zeCF rfl rfl rfl rfl rfl rfl (c_deedOf (m := m) (W := W) (t := t) (p := k) (k := 0) (by first | assumption | omega)) (by omega) ?_
    dsimp only [Option.toList, List.cons_append, List.nil_append]
    rw [show q_deedOf W t k 0 = Int32.ofNat (nv W (376 + 103 * t + (55 + 2 * k))) from ((hw.2 t ht).2.2.2.2.2.2.2 k (by omega)).1.1]
    refine zeP rfl rfl ?_
    refine zeP rfl rfl ?_
    refine zeP rfl rfl ?_
    refine zeP rfl rfl ?_
    refine zeKn (c := 1) rfl rfl rfl ?_
    refine zeCF rfl rfl rfl rfl rfl rfl (c_deedOf (m := m) (W := W) (t := t) (p := k) (k := 1) (by first | assumption | omega)) (by omega) ?_
    dsimp only [Option.toList, List.cons_append, List.nil_append]
    rw [show q_deedOf W t k 1 = Int32.ofNat (nv W (376 + 103 * t + (55 + 2 * k + 1))) from ((hw.2 t ht).2.2.2.2.2.2.2 k (by omega)).2.1.1]
    refine zeP rfl rfl ?_
    refine zeP rfl rfl ?_
    refine zeKn (c := 2) rfl rfl rfl ?_
    refine zeB2 rfl rfl (fun h1 => ?_) (fun h1 => ?_)
    · refine zeP rfl rfl ?_
      refine zeKn (c := 3) rfl rfl rfl ?_
      refine zeB2 rfl rfl (fun h2 => ?_) (fun h2 => ?_)
      · refine zeP rfl rfl ?_
        refine zeKn (c := 1) rfl rfl rfl ?_
        refine zeB2 rfl rfl (fun h3 => ?_) (fun h3 => ?_)
        · refine zeInc rfl rfl ?_
          refine zeP rfl rfl ?_
          simp only [l_touched, h1, h2, h3, cond_true, cond_false]
          exact ih (s) ((k + 1)) (some (.int (Int32.ofNat (nv W (376 + 103 * t + (55 + 2 * k)))))) (some (.int (Int32.ofNat (nv W (376 + 103 * t + (55 + 2 * k + 1))))))   (by omega) 
        · refine zeP rfl rfl ?_
          refine zeB1 rfl rfl (fun h4 => ?_) (fun h4 => ?_)
          · refine zeInc rfl rfl ?_
            refine zeP rfl rfl ?_
            simp only [l_touched, h1, h2, h3, h4, cond_true, cond_false]
            exact ih (s) ((k + 1)) (some (.int (Int32.ofNat (nv W (376 + 103 * t + (55 + 2 * k)))))) (some (.int (Int32.ofNat (nv W (376 + 103 * t + (55 + 2 * k + 1))))))   (by omega) 
          · refine zeP rfl rfl ?_
            refine zeP rfl rfl ?_
            refine zeP rfl rfl ?_
            refine zeGR rfl rfl zS137 rfl rfl ?_
            refine zeKn (c := 16) rfl rfl rfl ?_
            refine zeP rfl rfl ?_
            refine zeAdd rfl ?_
            refine zeWL (k := (16 + (nv W (376 + 103 * t + (55 + 2 * k + 1))))) rfl (by have e1 := ((hw.2 t ht).2.2.2.2.2.2.2 k (by omega)); have e2 := e1.1.2.2; have e3 := e1.2.2.1 (zgt_le (by omega) (by omega) (by assumption)); omega) ?_
            refine zeCF rfl rfl rfl rfl rfl rfl (c_blockOf (m := m) (W := W) (w := (W (16 + (nv W (376 + 103 * t + (55 + 2 * k + 1)))))) hw.Z) (by omega) ?_
            dsimp only [Option.toList, List.cons_append, List.nil_append]
            refine zeP rfl rfl ?_
            refine zeP rfl rfl ?_
            refine zeInc rfl rfl ?_
            refine zeP rfl rfl ?_
            simp only [l_touched, h1, h2, h3, h4, cond_true, cond_false]
            exact ih ((s ||| (q_blockOf W ((W (16 + (nv W (376 + 103 * t + (55 + 2 * k + 1))))))))) ((k + 1)) (some (.int (Int32.ofNat (nv W (376 + 103 * t + (55 + 2 * k)))))) (some (.int (Int32.ofNat (nv W (376 + 103 * t + (55 + 2 * k + 1))))))   (by omega) 
      · refine zeP rfl rfl ?_
        refine zeB1 rfl rfl (fun h5 => ?_) (fun h5 => ?_)
        · refine zeP rfl rfl ?_
          refine zeKn (c := 1) rfl rfl rfl ?_
          refine zeB2 rfl rfl (fun h6 => ?_) (fun h6 => ?_)
          · refine zeInc rfl rfl ?_
            refine zeP rfl rfl ?_
            simp only [l_touched, h1, h2, h5, h6, cond_true, cond_false]
            exact ih (s) ((k + 1)) (some (.int (Int32.ofNat (nv W (376 + 103 * t + (55 + 2 * k)))))) (some (.int (Int32.ofNat (nv W (376 + 103 * t + (55 + 2 * k + 1))))))   (by omega) 
          · refine zeP rfl rfl ?_
            refine zeB1 rfl rfl (fun h7 => ?_) (fun h7 => ?_)
            · refine zeInc rfl rfl ?_
              refine zeP rfl rfl ?_
              simp only [l_touched, h1, h2, h5, h6, h7, cond_true, cond_false]
              exact ih (s) ((k + 1)) (some (.int (Int32.ofNat (nv W (376 + 103 * t + (55 + 2 * k)))))) (some (.int (Int32.ofNat (nv W (376 + 103 * t + (55 + 2 * k + 1))))))   (by omega) 
            · refine zeP rfl rfl ?_
              refine zeP rfl rfl ?_
              refine zeP rfl rfl ?_
              refine zeGR rfl rfl zS137 rfl rfl ?_
              refine zeKn (c := 16) rfl rfl rfl ?_
              refine zeP rfl rfl ?_
              refine zeAdd rfl ?_
              refine zeWL (k := (16 + (nv W (376 + 103 * t + (55 + 2 * k + 1))))) rfl (by have e1 := ((hw.2 t ht).2.2.2.2.2.2.2 k (by omega)); have e2 := e1.1.2.2; have e3 := e1.2.2.1 (zgt_le (by omega) (by omega) (by assumption)); omega) ?_
              refine zeCF rfl rfl rfl rfl rfl rfl (c_blockOf (m := m) (W := W) (w := (W (16 + (nv W (376 + 103 * t + (55 + 2 * k + 1)))))) hw.Z) (by omega) ?_
              dsimp only [Option.toList, List.cons_append, List.nil_append]
              refine zeP rfl rfl ?_
              refine zeP rfl rfl ?_
              refine zeInc rfl rfl ?_
              refine zeP rfl rfl ?_
              simp only [l_touched, h1, h2, h5, h6, h7, cond_true, cond_false]
              exact ih ((s ||| (q_blockOf W ((W (16 + (nv W (376 + 103 * t + (55 + 2 * k + 1))))))))) ((k + 1)) (some (.int (Int32.ofNat (nv W (376 + 103 * t + (55 + 2 * k)))))) (some (.int (Int32.ofNat (nv W (376 + 103 * t + (55 + 2 * k + 1))))))   (by omega) 
        · refine zeP rfl rfl ?_
          refine zeP rfl rfl ?_
          refine zeP rfl rfl ?_
          refine zeCF rfl rfl rfl rfl rfl rfl (c_blockOf (m := m) (W := W) (w := (Int32.ofNat (nv W (376 + 103 * t + (55 + 2 * k + 1))))) hw.Z) (by omega) ?_
          dsimp only [Option.toList, List.cons_append, List.nil_append]
          refine zeP rfl rfl ?_
          refine zeP rfl rfl ?_
          refine zeP rfl rfl ?_
          refine zeKn (c := 1) rfl rfl rfl ?_
          refine zeB2 rfl rfl (fun h8 => ?_) (fun h8 => ?_)
          · refine zeInc rfl rfl ?_
            refine zeP rfl rfl ?_
            simp only [l_touched, h1, h2, h5, h8, cond_true, cond_false]
            exact ih ((s ||| (q_blockOf W ((Int32.ofNat (nv W (376 + 103 * t + (55 + 2 * k + 1)))))))) ((k + 1)) (some (.int (Int32.ofNat (nv W (376 + 103 * t + (55 + 2 * k)))))) (some (.int (Int32.ofNat (nv W (376 + 103 * t + (55 + 2 * k + 1))))))   (by omega) 
          · refine zeP rfl rfl ?_
            refine zeB1 rfl rfl (fun h9 => ?_) (fun h9 => ?_)
            · refine zeInc rfl rfl ?_
              refine zeP rfl rfl ?_
              simp only [l_touched, h1, h2, h5, h8, h9, cond_true, cond_false]
              exact ih ((s ||| (q_blockOf W ((Int32.ofNat (nv W (376 + 103 * t + (55 + 2 * k + 1)))))))) ((k + 1)) (some (.int (Int32.ofNat (nv W (376 + 103 * t + (55 + 2 * k)))))) (some (.int (Int32.ofNat (nv W (376 + 103 * t + (55 + 2 * k + 1))))))   (by omega) 
            · refine zeP rfl rfl ?_
              refine zeP rfl rfl ?_
              refine zeP rfl rfl ?_
              refine zeGR rfl rfl zS137 rfl rfl ?_
              refine zeKn (c := 16) rfl rfl rfl ?_
              refine zeP rfl rfl ?_
              refine zeAdd rfl ?_
              refine zeWL (k := (16 + (nv W (376 + 103 * t + (55 + 2 * k + 1))))) rfl (by have e1 := ((hw.2 t ht).2.2.2.2.2.2.2 k (by omega)); have e2 := e1.1.2.2; have e3 := e1.2.2.1 (zgt_le (by omega) (by omega) (by assumption)); omega) ?_
              refine zeCF rfl rfl rfl rfl rfl rfl (c_blockOf (m := m) (W := W) (w := (W (16 + (nv W (376 + 103 * t + (55 + 2 * k + 1)))))) hw.Z) (by omega) ?_
              dsimp only [Option.toList, List.cons_append, List.nil_append]
              refine zeP rfl rfl ?_
              refine zeP rfl rfl ?_
              refine zeInc rfl rfl ?_
              refine zeP rfl rfl ?_
              simp only [l_touched, h1, h2, h5, h8, h9, cond_true, cond_false]
              exact ih (((s ||| (q_blockOf W ((Int32.ofNat (nv W (376 + 103 * t + (55 + 2 * k + 1))))))) ||| (q_blockOf W ((W (16 + (nv W (376 + 103 * t + (55 + 2 * k + 1))))))))) ((k + 1)) (some (.int (Int32.ofNat (nv W (376 + 103 * t + (55 + 2 * k)))))) (some (.int (Int32.ofNat (nv W (376 + 103 * t + (55 + 2 * k + 1))))))   (by omega) 
    · refine zeP rfl rfl ?_
      refine zeB1 rfl rfl (fun h10 => ?_) (fun h10 => ?_)
      · refine zeP rfl rfl ?_
        refine zeP rfl rfl ?_
        refine zeP rfl rfl ?_
        refine zeCF rfl rfl rfl rfl rfl rfl (c_blockOf (m := m) (W := W) (w := (Int32.ofNat (nv W (376 + 103 * t + (55 + 2 * k + 1))))) hw.Z) (by omega) ?_
        dsimp only [Option.toList, List.cons_append, List.nil_append]
        refine zeP rfl rfl ?_
        refine zeP rfl rfl ?_
        refine zeP rfl rfl ?_
        refine zeKn (c := 1) rfl rfl rfl ?_
        refine zeB2 rfl rfl (fun h11 => ?_) (fun h11 => ?_)
        · refine zeInc rfl rfl ?_
          refine zeP rfl rfl ?_
          simp only [l_touched, h1, h10, h11, cond_true, cond_false]
          exact ih ((s ||| (q_blockOf W ((Int32.ofNat (nv W (376 + 103 * t + (55 + 2 * k + 1)))))))) ((k + 1)) (some (.int (Int32.ofNat (nv W (376 + 103 * t + (55 + 2 * k)))))) (some (.int (Int32.ofNat (nv W (376 + 103 * t + (55 + 2 * k + 1))))))   (by omega) 
        · refine zeP rfl rfl ?_
          refine zeB1 rfl rfl (fun h12 => ?_) (fun h12 => ?_)
          · refine zeInc rfl rfl ?_
            refine zeP rfl rfl ?_
            simp only [l_touched, h1, h10, h11, h12, cond_true, cond_false]
            exact ih ((s ||| (q_blockOf W ((Int32.ofNat (nv W (376 + 103 * t + (55 + 2 * k + 1)))))))) ((k + 1)) (some (.int (Int32.ofNat (nv W (376 + 103 * t + (55 + 2 * k)))))) (some (.int (Int32.ofNat (nv W (376 + 103 * t + (55 + 2 * k + 1))))))   (by omega) 
          · refine zeP rfl rfl ?_
            refine zeP rfl rfl ?_
            refine zeP rfl rfl ?_
            refine zeGR rfl rfl zS137 rfl rfl ?_
            refine zeKn (c := 16) rfl rfl rfl ?_
            refine zeP rfl rfl ?_
            refine zeAdd rfl ?_
            refine zeWL (k := (16 + (nv W (376 + 103 * t + (55 + 2 * k + 1))))) rfl (by have e1 := ((hw.2 t ht).2.2.2.2.2.2.2 k (by omega)); have e2 := e1.1.2.2; have e3 := e1.2.2.1 (zgt_le (by omega) (by omega) (by assumption)); omega) ?_
            refine zeCF rfl rfl rfl rfl rfl rfl (c_blockOf (m := m) (W := W) (w := (W (16 + (nv W (376 + 103 * t + (55 + 2 * k + 1)))))) hw.Z) (by omega) ?_
            dsimp only [Option.toList, List.cons_append, List.nil_append]
            refine zeP rfl rfl ?_
            refine zeP rfl rfl ?_
            refine zeInc rfl rfl ?_
            refine zeP rfl rfl ?_
            simp only [l_touched, h1, h10, h11, h12, cond_true, cond_false]
            exact ih (((s ||| (q_blockOf W ((Int32.ofNat (nv W (376 + 103 * t + (55 + 2 * k + 1))))))) ||| (q_blockOf W ((W (16 + (nv W (376 + 103 * t + (55 + 2 * k + 1))))))))) ((k + 1)) (some (.int (Int32.ofNat (nv W (376 + 103 * t + (55 + 2 * k)))))) (some (.int (Int32.ofNat (nv W (376 + 103 * t + (55 + 2 * k + 1))))))   (by omega) 
      · refine zeP rfl rfl ?_
        refine zeKn (c := 3) rfl rfl rfl ?_
        refine zeB2 rfl rfl (fun h13 => ?_) (fun h13 => ?_)
        · refine zeP rfl rfl ?_
          refine zeKn (c := 1) rfl rfl rfl ?_
          refine zeB2 rfl rfl (fun h14 => ?_) (fun h14 => ?_)
          · refine zeInc rfl rfl ?_
            refine zeP rfl rfl ?_
            simp only [l_touched, h1, h10, h13, h14, cond_true, cond_false]
            exact ih (s) ((k + 1)) (some (.int (Int32.ofNat (nv W (376 + 103 * t + (55 + 2 * k)))))) (some (.int (Int32.ofNat (nv W (376 + 103 * t + (55 + 2 * k + 1))))))   (by omega) 
          · refine zeP rfl rfl ?_
            refine zeB1 rfl rfl (fun h15 => ?_) (fun h15 => ?_)
            · refine zeInc rfl rfl ?_
              refine zeP rfl rfl ?_
              simp only [l_touched, h1, h10, h13, h14, h15, cond_true, cond_false]
              exact ih (s) ((k + 1)) (some (.int (Int32.ofNat (nv W (376 + 103 * t + (55 + 2 * k)))))) (some (.int (Int32.ofNat (nv W (376 + 103 * t + (55 + 2 * k + 1))))))   (by omega) 
            · refine zeP rfl rfl ?_
              refine zeP rfl rfl ?_
              refine zeP rfl rfl ?_
              refine zeGR rfl rfl zS137 rfl rfl ?_
              refine zeKn (c := 16) rfl rfl rfl ?_
              refine zeP rfl rfl ?_
              refine zeAdd rfl ?_
              refine zeWL (k := (16 + (nv W (376 + 103 * t + (55 + 2 * k + 1))))) rfl (by have e1 := ((hw.2 t ht).2.2.2.2.2.2.2 k (by omega)); have e2 := e1.1.2.2; have e3 := e1.2.2.1 (zgt_le (by omega) (by omega) (by assumption)); omega) ?_
              refine zeCF rfl rfl rfl rfl rfl rfl (c_blockOf (m := m) (W := W) (w := (W (16 + (nv W (376 + 103 * t + (55 + 2 * k + 1)))))) hw.Z) (by omega) ?_
              dsimp only [Option.toList, List.cons_append, List.nil_append]
              refine zeP rfl rfl ?_
              refine zeP rfl rfl ?_
              refine zeInc rfl rfl ?_
              refine zeP rfl rfl ?_
              simp only [l_touched, h1, h10, h13, h14, h15, cond_true, cond_false]
              exact ih ((s ||| (q_blockOf W ((W (16 + (nv W (376 + 103 * t + (55 + 2 * k + 1))))))))) ((k + 1)) (some (.int (Int32.ofNat (nv W (376 + 103 * t + (55 + 2 * k)))))) (some (.int (Int32.ofNat (nv W (376 + 103 * t + (55 + 2 * k + 1))))))   (by omega) 
        · refine zeP rfl rfl ?_
          refine zeB1 rfl rfl (fun h16 => ?_) (fun h16 => ?_)
          · refine zeP rfl rfl ?_
            refine zeKn (c := 1) rfl rfl rfl ?_
            refine zeB2 rfl rfl (fun h17 => ?_) (fun h17 => ?_)
            · refine zeInc rfl rfl ?_
              refine zeP rfl rfl ?_
              simp only [l_touched, h1, h10, h13, h16, h17, cond_true, cond_false]
              exact ih (s) ((k + 1)) (some (.int (Int32.ofNat (nv W (376 + 103 * t + (55 + 2 * k)))))) (some (.int (Int32.ofNat (nv W (376 + 103 * t + (55 + 2 * k + 1))))))   (by omega) 
            · refine zeP rfl rfl ?_
              refine zeB1 rfl rfl (fun h18 => ?_) (fun h18 => ?_)
              · refine zeInc rfl rfl ?_
                refine zeP rfl rfl ?_
                simp only [l_touched, h1, h10, h13, h16, h17, h18, cond_true, cond_false]
                exact ih (s) ((k + 1)) (some (.int (Int32.ofNat (nv W (376 + 103 * t + (55 + 2 * k)))))) (some (.int (Int32.ofNat (nv W (376 + 103 * t + (55 + 2 * k + 1))))))   (by omega) 
              · refine zeP rfl rfl ?_
                refine zeP rfl rfl ?_
                refine zeP rfl rfl ?_
                refine zeGR rfl rfl zS137 rfl rfl ?_
                refine zeKn (c := 16) rfl rfl rfl ?_
                refine zeP rfl rfl ?_
                refine zeAdd rfl ?_
                refine zeWL (k := (16 + (nv W (376 + 103 * t + (55 + 2 * k + 1))))) rfl (by have e1 := ((hw.2 t ht).2.2.2.2.2.2.2 k (by omega)); have e2 := e1.1.2.2; have e3 := e1.2.2.1 (zgt_le (by omega) (by omega) (by assumption)); omega) ?_
                refine zeCF rfl rfl rfl rfl rfl rfl (c_blockOf (m := m) (W := W) (w := (W (16 + (nv W (376 + 103 * t + (55 + 2 * k + 1)))))) hw.Z) (by omega) ?_
                dsimp only [Option.toList, List.cons_append, List.nil_append]
                refine zeP rfl rfl ?_
                refine zeP rfl rfl ?_
                refine zeInc rfl rfl ?_
                refine zeP rfl rfl ?_
                simp only [l_touched, h1, h10, h13, h16, h17, h18, cond_true, cond_false]
                exact ih ((s ||| (q_blockOf W ((W (16 + (nv W (376 + 103 * t + (55 + 2 * k + 1))))))))) ((k + 1)) (some (.int (Int32.ofNat (nv W (376 + 103 * t + (55 + 2 * k)))))) (some (.int (Int32.ofNat (nv W (376 + 103 * t + (55 + 2 * k + 1))))))   (by omega) 
          · refine zeP rfl rfl ?_
            refine zeP rfl rfl ?_
            refine zeP rfl rfl ?_
            refine zeCF rfl rfl rfl rfl rfl rfl (c_blockOf (m := m) (W := W) (w := (Int32.ofNat (nv W (376 + 103 * t + (55 + 2 * k + 1))))) hw.Z) (by omega) ?_
            dsimp only [Option.toList, List.cons_append, List.nil_append]
            refine zeP rfl rfl ?_
            refine zeP rfl rfl ?_
            refine zeP rfl rfl ?_
            refine zeKn (c := 1) rfl rfl rfl ?_
            refine zeB2 rfl rfl (fun h19 => ?_) (fun h19 => ?_)
            · refine zeInc rfl rfl ?_
              refine zeP rfl rfl ?_
              simp only [l_touched, h1, h10, h13, h16, h19, cond_true, cond_false]
              exact ih ((s ||| (q_blockOf W ((Int32.ofNat (nv W (376 + 103 * t + (55 + 2 * k + 1)))))))) ((k + 1)) (some (.int (Int32.ofNat (nv W (376 + 103 * t + (55 + 2 * k)))))) (some (.int (Int32.ofNat (nv W (376 + 103 * t + (55 + 2 * k + 1))))))   (by omega) 
            · refine zeP rfl rfl ?_
              refine zeB1 rfl rfl (fun h20 => ?_) (fun h20 => ?_)
              · refine zeInc rfl rfl ?_
                refine zeP rfl rfl ?_
                simp only [l_touched, h1, h10, h13, h16, h19, h20, cond_true, cond_false]
                exact ih ((s ||| (q_blockOf W ((Int32.ofNat (nv W (376 + 103 * t + (55 + 2 * k + 1)))))))) ((k + 1)) (some (.int (Int32.ofNat (nv W (376 + 103 * t + (55 + 2 * k)))))) (some (.int (Int32.ofNat (nv W (376 + 103 * t + (55 + 2 * k + 1))))))   (by omega) 
              · refine zeP rfl rfl ?_
                refine zeP rfl rfl ?_
                refine zeP rfl rfl ?_
                refine zeGR rfl rfl zS137 rfl rfl ?_
                refine zeKn (c := 16) rfl rfl rfl ?_
                refine zeP rfl rfl ?_
                refine zeAdd rfl ?_
                refine zeWL (k := (16 + (nv W (376 + 103 * t + (55 + 2 * k + 1))))) rfl (by have e1 := ((hw.2 t ht).2.2.2.2.2.2.2 k (by omega)); have e2 := e1.1.2.2; have e3 := e1.2.2.1 (zgt_le (by omega) (by omega) (by assumption)); omega) ?_
                refine zeCF rfl rfl rfl rfl rfl rfl (c_blockOf (m := m) (W := W) (w := (W (16 + (nv W (376 + 103 * t + (55 + 2 * k + 1)))))) hw.Z) (by omega) ?_
                dsimp only [Option.toList, List.cons_append, List.nil_append]
                refine zeP rfl rfl ?_
                refine zeP rfl rfl ?_
                refine zeInc rfl rfl ?_
                refine zeP rfl rfl ?_
                simp only [l_touched, h1, h10, h13, h16, h19, h20, cond_true, cond_false]
                exact ih (((s ||| (q_blockOf W ((Int32.ofNat (nv W (376 + 103 * t + (55 + 2 * k + 1))))))) ||| (q_blockOf W ((W (16 + (nv W (376 + 103 * t + (55 + 2 * k + 1))))))))) ((k + 1)) (some (.int (Int32.ofNat (nv W (376 + 103 * t + (55 + 2 * k)))))) (some (.int (Int32.ofNat (nv W (376 + 103 * t + (55 + 2 * k + 1))))))   (by omega) 
noncomputable def q_touched (W : Nat → Int32) (t : Nat) (a : Int32) (b : Int32) (c : Int32) : Int32 := (l_touched W t a b c ((nv W (376 + 103 * t + 22))) ((Int32.ofNat 0)) 0)
theorem p_touched {σ : Nat → Nat × (Nat → Int32)} {yy : (Nat → Nat → Int64) × Bool × Nat × Nat} {m : Nat → Nat → Int32} {W : Nat → Int32} {t : Nat} {a : Int32} {b : Int32} {c : Int32} {d : Nat} (hd : 4 ≤ d + 1) (hw : WG W) (ht : t < 4) : zEv σ (d + 1) 1894 0 [some (.ref 137), some (.int (Int32.ofNat t)), some (.int a), some (.int b), some (.int c), none, none, none, none] [] (zS1, zrow m 138 W, yy) (.inl (some (.int (q_touched W t a b c)))) (zS1, zrow m 138 W, yy) := by
  refine zeKn (c := 0) rfl rfl rfl ?_
  refine zeP rfl rfl ?_
  refine zeKn (c := 0) rfl rfl rfl ?_
  refine zeP rfl rfl ?_
  simp only [q_touched, cond_true, cond_false]
  exact w_touched (t := t) (a := a) (b := b) (c := c) (W := W) (m := m) (by omega) hw ht (hw.2 t ht).2.2.2.1.2.2 ((nv W (376 + 103 * t + 22))) ((Int32.ofNat 0)) (0) (none) (none)   (by omega) 
theorem c_touched {σ : Nat → Nat × (Nat → Int32)} {yy : (Nat → Nat → Int64) × Bool × Nat × Nat} {m : Nat → Nat → Int32} {W : Nat → Int32} {t : Nat} {a : Int32} {b : Int32} {c : Int32} (hw : WG W) (ht : t < 4) : zF σ 4 1894 [.ref 137, .int (Int32.ofNat t), .int a, .int b, .int c] (zS1, zrow m 138 W, yy) (.inl (some (.int (q_touched W t a b c)))) (zS1, zrow m 138 W, yy) := by
  intro d hd
  obtain ⟨d, rfl⟩ : ∃ k, d = k + 1 := ⟨d - 1, by omega⟩
  exact p_touched hd hw ht
noncomputable def q_touches (m : Nat → Nat → Int32) (W : Nat → Int32) (t : Int32) (x : Int32) : Int32 × (Nat → Nat → Int32) := (bif zc1 .ne (q_noThread m W t).1 then ((Int32.ofNat 0), (q_noThread m W t).2) else (bif zc1 .ne (q_in x ((Int32.ofNat 0)) ((Int32.ofNat 1))) then (bif zc2 .ne x (Int32.ofNat 1) then (bif zc1 .ne x then ((q_touched W ((t.toNatClampNeg)) ((Int32.ofNat 0)) ((Int32.ofNat 0)) ((Int32.ofNat 1))), (q_noThread m W t).2) else ((q_touched W ((t.toNatClampNeg)) ((Int32.ofNat 0)) ((Int32.ofNat 1)) ((Int32.ofNat 1))), (q_noThread m W t).2)) else (bif zc1 .ne x then ((q_touched W ((t.toNatClampNeg)) ((Int32.ofNat 1)) ((Int32.ofNat 0)) ((Int32.ofNat 1))), (q_noThread m W t).2) else ((q_touched W ((t.toNatClampNeg)) ((Int32.ofNat 1)) ((Int32.ofNat 1)) ((Int32.ofNat 1))), (q_noThread m W t).2))) else ((Int32.ofNat 0), (q_thr1 ((q_noThread m W t).2) 2).2)))
theorem p_touches {σ : Nat → Nat × (Nat → Int32)} {yy : (Nat → Nat → Int64) × Bool × Nat × Nat} {m : Nat → Nat → Int32} {W : Nat → Int32} {t : Int32} {x : Int32} {d : Nat} (hd : 5 ≤ d + 1) (hw : WG W) : zEv σ (d + 1) 1895 0 [some (.ref 137), some (.int t), some (.int x)] [] (zS1, zrow m 138 W, yy) (.inl (some (.int (q_touches m W t x).1))) (zS1, zrow ((q_touches m W t x).2) 138 W, yy) := by
  refine zeP rfl rfl ?_
  refine zeP rfl rfl ?_
  refine zeCF rfl rfl rfl rfl rfl rfl (c_noThread (m := m) (W := W) (t := t) ) (by omega) ?_
  dsimp only [Option.toList, List.cons_append, List.nil_append]
  refine zeB1 rfl rfl (fun h1 => ?_) (fun h1 => ?_)
  · refine zeKn (c := 0) rfl rfl rfl ?_
    refine zeP rfl rfl ?_
    exact zeRe rfl rfl rfl rfl (by simp only [q_touches, h1, cond_true, cond_false] <;> rfl) (by simp only [q_touches, h1, cond_true, cond_false] <;> rfl)
  · have ct : t = Int32.ofNat t.toNatClampNeg ∧ t.toNatClampNeg < nv W 9 := (nT_in hw (by assumption))
    refine zeP rfl rfl ?_
    refine zeP rfl rfl ?_
    refine zeKn (c := 0) rfl rfl rfl ?_
    refine zeKn (c := 1) rfl rfl rfl ?_
    refine zeCF rfl rfl rfl rfl rfl rfl (c_in (m := (q_noThread m W t).2) (W := W) (v := x) (lo := (Int32.ofNat 0)) (hi := (Int32.ofNat 1)) ) (by omega) ?_
    dsimp only [Option.toList, List.cons_append, List.nil_append]
    refine zeB1 rfl rfl (fun h2 => ?_) (fun h2 => ?_)
    · refine zeKn (c := 0) rfl rfl rfl ?_
      refine zeKn (c := 2) rfl rfl rfl ?_
      refine zeCF rfl rfl rfl rfl rfl rfl (c_thr0 (m := (q_noThread m W t).2) (W := W) (c := 2) ) (by omega) ?_
      dsimp only [Option.toList, List.cons_append, List.nil_append]
      refine zeT1 rfl rfl (show zc1 .eq (Int32.ofNat 0) = true by decide) ?_
      refine zeP rfl rfl ?_
      refine zeKn (c := t.toNatClampNeg) rfl rfl ct.1 ?_
      refine zeP rfl rfl ?_
      refine zeKn (c := 1) rfl rfl rfl ?_
      refine zeB2 rfl rfl (fun h3 => ?_) (fun h3 => ?_)
      · refine zeKn (c := 0) rfl rfl rfl ?_
        refine zeP rfl rfl ?_
        refine zeB1 rfl rfl (fun h4 => ?_) (fun h4 => ?_)
        · refine zeKn (c := 0) rfl rfl rfl ?_
          refine zeKn (c := 1) rfl rfl rfl ?_
          refine zeCF rfl rfl rfl rfl rfl rfl (c_touched (m := (q_noThread m W t).2) (W := W) (t := (t.toNatClampNeg)) (a := (Int32.ofNat 0)) (b := (Int32.ofNat 0)) (c := (Int32.ofNat 1)) hw (by have := hw.N4; omega)) (by omega) ?_
          dsimp only [Option.toList, List.cons_append, List.nil_append]
          exact zeRe rfl rfl rfl rfl (by simp only [q_touches, h1, h2, h3, h4, cond_true, cond_false] <;> rfl) (by simp only [q_touches, h1, h2, h3, h4, cond_true, cond_false] <;> rfl)
        · refine zeKn (c := 1) rfl rfl rfl ?_
          refine zeP rfl rfl ?_
          refine zeKn (c := 1) rfl rfl rfl ?_
          refine zeCF rfl rfl rfl rfl rfl rfl (c_touched (m := (q_noThread m W t).2) (W := W) (t := (t.toNatClampNeg)) (a := (Int32.ofNat 0)) (b := (Int32.ofNat 1)) (c := (Int32.ofNat 1)) hw (by have := hw.N4; omega)) (by omega) ?_
          dsimp only [Option.toList, List.cons_append, List.nil_append]
          exact zeRe rfl rfl rfl rfl (by simp only [q_touches, h1, h2, h3, h4, cond_true, cond_false] <;> rfl) (by simp only [q_touches, h1, h2, h3, h4, cond_true, cond_false] <;> rfl)
      · refine zeKn (c := 1) rfl rfl rfl ?_
        refine zeP rfl rfl ?_
        refine zeP rfl rfl ?_
        refine zeB1 rfl rfl (fun h5 => ?_) (fun h5 => ?_)
        · refine zeKn (c := 0) rfl rfl rfl ?_
          refine zeKn (c := 1) rfl rfl rfl ?_
          refine zeCF rfl rfl rfl rfl rfl rfl (c_touched (m := (q_noThread m W t).2) (W := W) (t := (t.toNatClampNeg)) (a := (Int32.ofNat 1)) (b := (Int32.ofNat 0)) (c := (Int32.ofNat 1)) hw (by have := hw.N4; omega)) (by omega) ?_
          dsimp only [Option.toList, List.cons_append, List.nil_append]
          exact zeRe rfl rfl rfl rfl (by simp only [q_touches, h1, h2, h3, h5, cond_true, cond_false] <;> rfl) (by simp only [q_touches, h1, h2, h3, h5, cond_true, cond_false] <;> rfl)
        · refine zeKn (c := 1) rfl rfl rfl ?_
          refine zeP rfl rfl ?_
          refine zeKn (c := 1) rfl rfl rfl ?_
          refine zeCF rfl rfl rfl rfl rfl rfl (c_touched (m := (q_noThread m W t).2) (W := W) (t := (t.toNatClampNeg)) (a := (Int32.ofNat 1)) (b := (Int32.ofNat 1)) (c := (Int32.ofNat 1)) hw (by have := hw.N4; omega)) (by omega) ?_
          dsimp only [Option.toList, List.cons_append, List.nil_append]
          exact zeRe rfl rfl rfl rfl (by simp only [q_touches, h1, h2, h3, h5, cond_true, cond_false] <;> rfl) (by simp only [q_touches, h1, h2, h3, h5, cond_true, cond_false] <;> rfl)
    · refine zeKn (c := 1) rfl rfl rfl ?_
      refine zeP rfl rfl ?_
      refine zeKn (c := 2) rfl rfl rfl ?_
      refine zeCF rfl rfl rfl rfl rfl rfl (c_thr1 (m := (q_noThread m W t).2) (W := W) (c := 2) ) (by omega) ?_
      dsimp only [Option.toList, List.cons_append, List.nil_append]
      refine zeF1 rfl rfl (show zc1 .eq (Int32.ofNat 1) = false by decide) ?_
      refine zeKn (c := 0) rfl rfl rfl ?_
      refine zeP rfl rfl ?_
      exact zeRe rfl rfl rfl rfl (by simp only [q_touches, h1, h2, cond_true, cond_false] <;> rfl) (by simp only [q_touches, h1, h2, cond_true, cond_false] <;> rfl)
theorem c_touches {σ : Nat → Nat × (Nat → Int32)} {yy : (Nat → Nat → Int64) × Bool × Nat × Nat} {m : Nat → Nat → Int32} {W : Nat → Int32} {t : Int32} {x : Int32} (hw : WG W) : zF σ 5 1895 [.ref 137, .int t, .int x] (zS1, zrow m 138 W, yy) (.inl (some (.int (q_touches m W t x).1))) (zS1, zrow ((q_touches m W t x).2) 138 W, yy) := by
  intro d hd
  obtain ⟨d, rfl⟩ : ∃ k, d = k + 1 := ⟨d - 1, by omega⟩
  exact p_touches hd hw
noncomputable def q_rivals (m : Nat → Nat → Int32) (W : Nat → Int32) (t : Int32) (u : Int32) : Int32 × (Nat → Nat → Int32) := (bif zc1 .eq (q_in t ((Int32.ofNat 0)) (((q_threads W) - (Int32.ofNat 1)))) then ((Int32.ofNat 0), (q_thr1 ((zm2 m 137 0 (Int32.ofNat 0))) 1).2) else (bif zc1 .ne (q_in u ((Int32.ofNat 0)) (((q_threads W) - (Int32.ofNat 1)))) then (bif zc2 .ne t u then ((((q_touched W ((t.toNatClampNeg)) ((Int32.ofNat 1)) ((Int32.ofNat 0)) ((Int32.ofNat 0))) &&& (q_touched W ((u.toNatClampNeg)) ((Int32.ofNat 1)) ((Int32.ofNat 1)) ((Int32.ofNat 0)))) ||| ((q_touched W ((u.toNatClampNeg)) ((Int32.ofNat 1)) ((Int32.ofNat 0)) ((Int32.ofNat 0))) &&& (q_touched W ((t.toNatClampNeg)) ((Int32.ofNat 1)) ((Int32.ofNat 1)) ((Int32.ofNat 0))))), (zm2 m 137 0 (Int32.ofNat 0))) else ((Int32.ofNat 0), (q_thr1 ((zm2 m 137 0 (Int32.ofNat 0))) 2).2)) else ((Int32.ofNat 0), (q_thr1 ((zm2 m 137 0 (Int32.ofNat 0))) 1).2)))
theorem p_rivals {σ : Nat → Nat × (Nat → Int32)} {yy : (Nat → Nat → Int64) × Bool × Nat × Nat} {m : Nat → Nat → Int32} {W : Nat → Int32} {t : Int32} {u : Int32} {d : Nat} (hd : 5 ≤ d + 1) (hw : WG W) : zEv σ (d + 1) 1896 0 [some (.ref 137), some (.int t), some (.int u)] [] (zS1, zrow m 138 W, yy) (.inl (some (.int (q_rivals m W t u).1))) (zS1, zrow ((q_rivals m W t u).2) 138 W, yy) := by
  refine zeP rfl rfl ?_
  refine zeKn (c := 0) rfl rfl rfl ?_
  refine zeFP rfl rfl rfl ?_
  refine zeP rfl rfl ?_
  refine zeP rfl rfl ?_
  refine zeKn (c := 0) rfl rfl rfl ?_
  refine zeP rfl rfl ?_
  refine zeCF rfl rfl rfl rfl rfl rfl (c_threads (m := (zm2 m 137 0 (Int32.ofNat 0))) (W := W)  ) (by omega) ?_
  dsimp only [Option.toList, List.cons_append, List.nil_append]
  refine zeKn (c := 1) rfl rfl rfl ?_
  refine zeP rfl rfl ?_
  refine zeCF rfl rfl rfl rfl rfl rfl (c_in (m := (zm2 m 137 0 (Int32.ofNat 0))) (W := W) (v := t) (lo := (Int32.ofNat 0)) (hi := ((q_threads W) - (Int32.ofNat 1))) ) (by omega) ?_
  dsimp only [Option.toList, List.cons_append, List.nil_append]
  refine zeB1 rfl rfl (fun h1 => ?_) (fun h1 => ?_)
  · refine zeKn (c := 1) rfl rfl rfl ?_
    refine zeP rfl rfl ?_
    refine zeKn (c := 1) rfl rfl rfl ?_
    refine zeCF rfl rfl rfl rfl rfl rfl (c_thr1 (m := (zm2 m 137 0 (Int32.ofNat 0))) (W := W) (c := 1) ) (by omega) ?_
    dsimp only [Option.toList, List.cons_append, List.nil_append]
    refine zeT1 rfl rfl (show zc1 .ne (Int32.ofNat 1) = true by decide) ?_
    refine zeKn (c := 0) rfl rfl rfl ?_
    exact zeRe rfl rfl rfl rfl (by simp only [q_rivals, h1, cond_true, cond_false] <;> rfl) (by simp only [q_rivals, h1, cond_true, cond_false] <;> rfl)
  · refine zeP rfl rfl ?_
    refine zeKn (c := 0) rfl rfl rfl ?_
    refine zeP rfl rfl ?_
    refine zeCF rfl rfl rfl rfl rfl rfl (c_threads (m := (zm2 m 137 0 (Int32.ofNat 0))) (W := W)  ) (by omega) ?_
    dsimp only [Option.toList, List.cons_append, List.nil_append]
    refine zeKn (c := 1) rfl rfl rfl ?_
    refine zeP rfl rfl ?_
    refine zeCF rfl rfl rfl rfl rfl rfl (c_in (m := (zm2 m 137 0 (Int32.ofNat 0))) (W := W) (v := u) (lo := (Int32.ofNat 0)) (hi := ((q_threads W) - (Int32.ofNat 1))) ) (by omega) ?_
    dsimp only [Option.toList, List.cons_append, List.nil_append]
    refine zeB1 rfl rfl (fun h2 => ?_) (fun h2 => ?_)
    · refine zeKn (c := 0) rfl rfl rfl ?_
      refine zeKn (c := 1) rfl rfl rfl ?_
      refine zeCF rfl rfl rfl rfl rfl rfl (c_thr0 (m := (zm2 m 137 0 (Int32.ofNat 0))) (W := W) (c := 1) ) (by omega) ?_
      dsimp only [Option.toList, List.cons_append, List.nil_append]
      refine zeF1 rfl rfl (show zc1 .ne (Int32.ofNat 0) = false by decide) ?_
      refine zeP rfl rfl ?_
      refine zeP rfl rfl ?_
      refine zeP rfl rfl ?_
      refine zeB2 rfl rfl (fun h3 => ?_) (fun h3 => ?_)
      · refine zeKn (c := 0) rfl rfl rfl ?_
        refine zeKn (c := 2) rfl rfl rfl ?_
        refine zeCF rfl rfl rfl rfl rfl rfl (c_thr0 (m := (zm2 m 137 0 (Int32.ofNat 0))) (W := W) (c := 2) ) (by omega) ?_
        dsimp only [Option.toList, List.cons_append, List.nil_append]
        refine zeT1 rfl rfl (show zc1 .eq (Int32.ofNat 0) = true by decide) ?_
        have ct : t = Int32.ofNat t.toNatClampNeg ∧ t.toNatClampNeg < nv W 9 := (in_N hw.N hw.N4 (zne (by assumption)))
        have cu : u = Int32.ofNat u.toNatClampNeg ∧ u.toNatClampNeg < nv W 9 := (in_N hw.N hw.N4 (by assumption))
        refine zeP rfl rfl ?_
        refine zeKn (c := t.toNatClampNeg) rfl rfl ct.1 ?_
        refine zeKn (c := 1) rfl rfl rfl ?_
        refine zeKn (c := 0) rfl rfl rfl ?_
        refine zeKn (c := 0) rfl rfl rfl ?_
        refine zeCF rfl rfl rfl rfl rfl rfl (c_touched (m := (zm2 m 137 0 (Int32.ofNat 0))) (W := W) (t := (t.toNatClampNeg)) (a := (Int32.ofNat 1)) (b := (Int32.ofNat 0)) (c := (Int32.ofNat 0)) hw (by have := hw.N4; omega)) (by omega) ?_
        dsimp only [Option.toList, List.cons_append, List.nil_append]
        refine zeP rfl rfl ?_
        refine zeKn (c := u.toNatClampNeg) rfl rfl cu.1 ?_
        refine zeKn (c := 1) rfl rfl rfl ?_
        refine zeKn (c := 1) rfl rfl rfl ?_
        refine zeKn (c := 0) rfl rfl rfl ?_
        refine zeCF rfl rfl rfl rfl rfl rfl (c_touched (m := (zm2 m 137 0 (Int32.ofNat 0))) (W := W) (t := (u.toNatClampNeg)) (a := (Int32.ofNat 1)) (b := (Int32.ofNat 1)) (c := (Int32.ofNat 0)) hw (by have := hw.N4; omega)) (by omega) ?_
        dsimp only [Option.toList, List.cons_append, List.nil_append]
        refine zeP rfl rfl ?_
        refine zeP rfl rfl ?_
        refine zeKn (c := u.toNatClampNeg) rfl rfl cu.1 ?_
        refine zeKn (c := 1) rfl rfl rfl ?_
        refine zeKn (c := 0) rfl rfl rfl ?_
        refine zeKn (c := 0) rfl rfl rfl ?_
        refine zeCF rfl rfl rfl rfl rfl rfl (c_touched (m := (zm2 m 137 0 (Int32.ofNat 0))) (W := W) (t := (u.toNatClampNeg)) (a := (Int32.ofNat 1)) (b := (Int32.ofNat 0)) (c := (Int32.ofNat 0)) hw (by have := hw.N4; omega)) (by omega) ?_
        dsimp only [Option.toList, List.cons_append, List.nil_append]
        refine zeP rfl rfl ?_
        refine zeKn (c := t.toNatClampNeg) rfl rfl ct.1 ?_
        refine zeKn (c := 1) rfl rfl rfl ?_
        refine zeKn (c := 1) rfl rfl rfl ?_
        refine zeKn (c := 0) rfl rfl rfl ?_
        refine zeCF rfl rfl rfl rfl rfl rfl (c_touched (m := (zm2 m 137 0 (Int32.ofNat 0))) (W := W) (t := (t.toNatClampNeg)) (a := (Int32.ofNat 1)) (b := (Int32.ofNat 1)) (c := (Int32.ofNat 0)) hw (by have := hw.N4; omega)) (by omega) ?_
        dsimp only [Option.toList, List.cons_append, List.nil_append]
        refine zeP rfl rfl ?_
        refine zeP rfl rfl ?_
        exact zeRe rfl rfl rfl rfl (by simp only [q_rivals, h1, h2, h3, cond_true, cond_false] <;> rfl) (by simp only [q_rivals, h1, h2, h3, cond_true, cond_false] <;> rfl)
      · refine zeKn (c := 1) rfl rfl rfl ?_
        refine zeP rfl rfl ?_
        refine zeKn (c := 2) rfl rfl rfl ?_
        refine zeCF rfl rfl rfl rfl rfl rfl (c_thr1 (m := (zm2 m 137 0 (Int32.ofNat 0))) (W := W) (c := 2) ) (by omega) ?_
        dsimp only [Option.toList, List.cons_append, List.nil_append]
        refine zeF1 rfl rfl (show zc1 .eq (Int32.ofNat 1) = false by decide) ?_
        refine zeKn (c := 0) rfl rfl rfl ?_
        exact zeRe rfl rfl rfl rfl (by simp only [q_rivals, h1, h2, h3, cond_true, cond_false] <;> rfl) (by simp only [q_rivals, h1, h2, h3, cond_true, cond_false] <;> rfl)
    · refine zeKn (c := 1) rfl rfl rfl ?_
      refine zeP rfl rfl ?_
      refine zeKn (c := 1) rfl rfl rfl ?_
      refine zeCF rfl rfl rfl rfl rfl rfl (c_thr1 (m := (zm2 m 137 0 (Int32.ofNat 0))) (W := W) (c := 1) ) (by omega) ?_
      dsimp only [Option.toList, List.cons_append, List.nil_append]
      refine zeT1 rfl rfl (show zc1 .ne (Int32.ofNat 1) = true by decide) ?_
      refine zeKn (c := 0) rfl rfl rfl ?_
      exact zeRe rfl rfl rfl rfl (by simp only [q_rivals, h1, h2, cond_true, cond_false] <;> rfl) (by simp only [q_rivals, h1, h2, cond_true, cond_false] <;> rfl)
theorem c_rivals {σ : Nat → Nat × (Nat → Int32)} {yy : (Nat → Nat → Int64) × Bool × Nat × Nat} {m : Nat → Nat → Int32} {W : Nat → Int32} {t : Int32} {u : Int32} (hw : WG W) : zF σ 5 1896 [.ref 137, .int t, .int u] (zS1, zrow m 138 W, yy) (.inl (some (.int (q_rivals m W t u).1))) (zS1, zrow ((q_rivals m W t u).2) 138 W, yy) := by
  intro d hd
  obtain ⟨d, rfl⟩ : ∃ k, d = k + 1 := ⟨d - 1, by omega⟩
  exact p_rivals hd hw
noncomputable def q_heldBehind (W : Nat → Int32) (t : Nat) (p : Nat) (h : Int32) : Int32 := (bif zc1 .ne (q_deedOf W t p 0) then (bif zc2 .ne (q_deedOf W t p 0) (Int32.ofNat 1) then h else (h &&& (((Int32.ofNat 1) <<< ((q_deedOf W t p 1) &&& 31)) ^^^ (-1)))) else (h ||| ((Int32.ofNat 1) <<< ((q_deedOf W t p 1) &&& 31))))
theorem p_heldBehind {σ : Nat → Nat × (Nat → Int32)} {yy : (Nat → Nat → Int64) × Bool × Nat × Nat} {m : Nat → Nat → Int32} {W : Nat → Int32} {t : Nat} {p : Nat} {h : Int32} {d : Nat} (hd : 4 ≤ d + 1) (hp : 376 + 103 * t + (55 + 2 * p + 1) < 788) : zEv σ (d + 1) 1897 0 [some (.ref 137), some (.int (Int32.ofNat t)), some (.int (Int32.ofNat p)), some (.int h), none, none] [] (zS1, zrow m 138 W, yy) (.inl (some (.int (q_heldBehind W t p h)))) (zS1, zrow m 138 W, yy) := by
  refine zeP rfl rfl ?_
  refine zeP rfl rfl ?_
  refine zeP rfl rfl ?_
  refine zeKn (c := 0) rfl rfl rfl ?_
  refine zeCF rfl rfl rfl rfl rfl rfl (c_deedOf (m := m) (W := W) (t := t) (p := p) (k := 0) (by first | assumption | omega)) (by omega) ?_
  dsimp only [Option.toList, List.cons_append, List.nil_append]
  refine zeP rfl rfl ?_
  refine zeP rfl rfl ?_
  refine zeP rfl rfl ?_
  refine zeP rfl rfl ?_
  refine zeKn (c := 1) rfl rfl rfl ?_
  refine zeCF rfl rfl rfl rfl rfl rfl (c_deedOf (m := m) (W := W) (t := t) (p := p) (k := 1) (by first | assumption | omega)) (by omega) ?_
  dsimp only [Option.toList, List.cons_append, List.nil_append]
  refine zeP rfl rfl ?_
  refine zeP rfl rfl ?_
  refine zeB1 rfl rfl (fun h1 => ?_) (fun h1 => ?_)
  · refine zeP rfl rfl ?_
    refine zeKn (c := 1) rfl rfl rfl ?_
    refine zeB2 rfl rfl (fun h2 => ?_) (fun h2 => ?_)
    · refine zeP rfl rfl ?_
      exact zeRe rfl rfl rfl rfl (by simp only [q_heldBehind, h1, h2, cond_true, cond_false] <;> rfl) (by simp only [q_heldBehind, h1, h2, cond_true, cond_false] <;> rfl)
    · refine zeP rfl rfl ?_
      refine zeKn (c := 1) rfl rfl rfl ?_
      refine zeP rfl rfl ?_
      refine zeP rfl rfl ?_
      refine zeK (v := -1) rfl rfl rfl ?_
      refine zeP rfl rfl ?_
      refine zeP rfl rfl ?_
      refine zeP rfl rfl ?_
      exact zeRe rfl rfl rfl rfl (by simp only [q_heldBehind, h1, h2, cond_true, cond_false] <;> rfl) (by simp only [q_heldBehind, h1, h2, cond_true, cond_false] <;> rfl)
  · refine zeP rfl rfl ?_
    refine zeKn (c := 1) rfl rfl rfl ?_
    refine zeP rfl rfl ?_
    refine zeP rfl rfl ?_
    refine zeP rfl rfl ?_
    refine zeP rfl rfl ?_
    exact zeRe rfl rfl rfl rfl (by simp only [q_heldBehind, h1, cond_true, cond_false] <;> rfl) (by simp only [q_heldBehind, h1, cond_true, cond_false] <;> rfl)
theorem c_heldBehind {σ : Nat → Nat × (Nat → Int32)} {yy : (Nat → Nat → Int64) × Bool × Nat × Nat} {m : Nat → Nat → Int32} {W : Nat → Int32} {t : Nat} {p : Nat} {h : Int32} (hp : 376 + 103 * t + (55 + 2 * p + 1) < 788) : zF σ 4 1897 [.ref 137, .int (Int32.ofNat t), .int (Int32.ofNat p), .int h] (zS1, zrow m 138 W, yy) (.inl (some (.int (q_heldBehind W t p h)))) (zS1, zrow m 138 W, yy) := by
  intro d hd
  obtain ⟨d, rfl⟩ : ∃ k, d = k + 1 := ⟨d - 1, by omega⟩
  exact p_heldBehind hd hp
noncomputable def l_nest (W : Nat → Int32) (t : Nat) : Nat → Int32 → Int32 → Nat → Int32
  | 0, h, b, k => b
  | n + 1, h, b, k => (l_nest W t n ((q_heldBehind W t k h)) ((if b < (q_bits ((q_heldBehind W t k h))) then (q_bits ((q_heldBehind W t k h))) else b)) ((k + 1)))
theorem w_nest {σ : Nat → Nat × (Nat → Int32)} {yy : (Nat → Nat → Int64) × Bool × Nat × Nat} {m : Nat → Nat → Int32} {W : Nat → Int32} {t : Nat} {d : Nat} (hd : 5 ≤ d + 1) (hw : WG W) (ht : t < 4) (h24 : nv W (376 + 103 * t + 22) ≤ 24) : ∀ (n : Nat) (h : Int32) (b : Int32) (k : Nat), k + n = nv W (376 + 103 * t + 22) → zEv σ (d + 1) 1898 17 [some (.ref 137), some (.int (Int32.ofNat t)), some (.int h), some (.int b), some (.int (Int32.ofNat k))] [] (zS1, zrow m 138 W, yy) (.inl (some (.int (l_nest W t n h b k)))) (zS1, zrow m 138 W, yy) := by
  intro n
  induction n with
  | zero =>
    intro h b k hk
    refine zeP rfl rfl ?_
    refine zeP rfl rfl ?_
    refine zeP rfl rfl ?_
    refine zeKn (c := 22) rfl rfl rfl ?_
    refine zeCF rfl rfl rfl rfl rfl rfl (c_of (m := m) (W := W) (t := t) (k := 22) (by first | assumption | omega)) (by omega) ?_
    dsimp only [Option.toList, List.cons_append, List.nil_append]
    rw [show q_of W t 22 = Int32.ofNat (nv W (376 + 103 * t + 22)) from (hw.2 t ht).2.2.2.1.1]
    refine zeT2 rfl rfl (zcge (by omega) (by omega) (by omega)) ?_
    refine zeP rfl rfl ?_
    exact zeRe rfl rfl rfl rfl (by rfl) (by rfl)
  | succ n ih =>
    intro h b k hk
    refine zeP rfl rfl ?_
    refine zeP rfl rfl ?_
    refine zeP rfl rfl ?_
    refine zeKn (c := 22) rfl rfl rfl ?_
    refine zeCF rfl rfl rfl rfl rfl rfl (c_of (m := m) (W := W) (t := t) (k := 22) (by first | assumption | omega)) (by omega) ?_
    dsimp only [Option.toList, List.cons_append, List.nil_append]
    rw [show q_of W t 22 = Int32.ofNat (nv W (376 + 103 * t + 22)) from (hw.2 t ht).2.2.2.1.1]
    refine zeF2 rfl rfl (zcge_f (by omega) (by omega) (by omega)) ?_
    refine zeP rfl rfl ?_
    refine zeP rfl rfl ?_
    refine zeP rfl rfl ?_
    refine zeP rfl rfl ?_
    refine zeCF rfl rfl rfl rfl rfl rfl (c_heldBehind (m := m) (W := W) (t := t) (p := k) (h := h) (by first | assumption | omega)) (by omega) ?_
    dsimp only [Option.toList, List.cons_append, List.nil_append]
    refine zeP rfl rfl ?_
    refine zeP rfl rfl ?_
    refine zeP rfl rfl ?_
    refine zeCF rfl rfl rfl rfl rfl rfl (c_bits (m := m) (W := W) (s := (q_heldBehind W t k h)) ) (by omega) ?_
    dsimp only [Option.toList, List.cons_append, List.nil_append]
    refine zeM rfl rfl rfl rfl rfl rfl rfl ?_
    refine zeP rfl rfl ?_
    refine zeInc rfl rfl ?_
    refine zeP rfl rfl ?_
    simp only [l_nest, cond_true, cond_false]
    exact ih ((q_heldBehind W t k h)) ((if b < (q_bits ((q_heldBehind W t k h))) then (q_bits ((q_heldBehind W t k h))) else b)) ((k + 1))   (by omega) 
noncomputable def q_nest (m : Nat → Nat → Int32) (W : Nat → Int32) (t : Int32) : Int32 × (Nat → Nat → Int32) := (bif zc1 .eq (q_noThread m W t).1 then ((l_nest W ((t.toNatClampNeg)) ((nv W (376 + 103 * t.toNatClampNeg + 22))) ((Int32.ofNat 0)) ((Int32.ofNat 0)) 0), (q_noThread m W t).2) else ((Int32.ofNat 0), (q_noThread m W t).2))
theorem p_nest {σ : Nat → Nat × (Nat → Int32)} {yy : (Nat → Nat → Int64) × Bool × Nat × Nat} {m : Nat → Nat → Int32} {W : Nat → Int32} {t : Int32} {d : Nat} (hd : 5 ≤ d + 1) (hw : WG W) : zEv σ (d + 1) 1898 0 [some (.ref 137), some (.int t), none, none, none] [] (zS1, zrow m 138 W, yy) (.inl (some (.int (q_nest m W t).1))) (zS1, zrow ((q_nest m W t).2) 138 W, yy) := by
  refine zeP rfl rfl ?_
  refine zeP rfl rfl ?_
  refine zeCF rfl rfl rfl rfl rfl rfl (c_noThread (m := m) (W := W) (t := t) ) (by omega) ?_
  dsimp only [Option.toList, List.cons_append, List.nil_append]
  refine zeB1 rfl rfl (fun h1 => ?_) (fun h1 => ?_)
  · have ct : t = Int32.ofNat t.toNatClampNeg ∧ t.toNatClampNeg < nv W 9 := (nT_in hw (zneF (by assumption)))
    refine zeKn (c := 0) rfl rfl rfl ?_
    refine zeP rfl rfl ?_
    refine zeKn (c := 0) rfl rfl rfl ?_
    refine zeP rfl rfl ?_
    refine zeKn (c := 0) rfl rfl rfl ?_
    refine zeP rfl rfl ?_
    simp only [q_nest, h1, cond_true, cond_false]
    have ez := w_nest (t := (t.toNatClampNeg)) (W := W) (m := (q_noThread m W t).2) (σ := σ) (yy := yy) (d := d) (by omega) hw (by have := hw.N4; omega) (hw.2 _ (by have := hw.N4; omega)).2.2.2.1.2.2 ((nv W (376 + 103 * t.toNatClampNeg + 22))) ((Int32.ofNat 0)) ((Int32.ofNat 0)) (0)   (by omega) 
    rw [← ct.1] at ez
    exact ez
  · refine zeKn (c := 0) rfl rfl rfl ?_
    exact zeRe rfl rfl rfl rfl (by simp only [q_nest, h1, cond_true, cond_false] <;> rfl) (by simp only [q_nest, h1, cond_true, cond_false] <;> rfl)
theorem c_nest {σ : Nat → Nat × (Nat → Int32)} {yy : (Nat → Nat → Int64) × Bool × Nat × Nat} {m : Nat → Nat → Int32} {W : Nat → Int32} {t : Int32} (hw : WG W) : zF σ 5 1898 [.ref 137, .int t] (zS1, zrow m 138 W, yy) (.inl (some (.int (q_nest m W t).1))) (zS1, zrow ((q_nest m W t).2) 138 W, yy) := by
  intro d hd
  obtain ⟨d, rfl⟩ : ∃ k, d = k + 1 := ⟨d - 1, by omega⟩
  exact p_nest hd hw
noncomputable def l_behindPart (W : Nat → Int32) (t : Nat) : Nat → Int32 → Nat → Int32
  | 0, h, k => (Int32.ofNat (k + 1))
  | n + 1, h, k => (bif zc1 .ne (q_heldBehind W t k h) then (l_behindPart W t n ((q_heldBehind W t k h)) ((k + 1))) else (Int32.ofNat (k + 1)))
theorem w_behindPart {σ : Nat → Nat × (Nat → Int32)} {yy : (Nat → Nat → Int64) × Bool × Nat × Nat} {m : Nat → Nat → Int32} {W : Nat → Int32} {t : Nat} {d : Nat} (hd : 5 ≤ d + 1) (hw : WG W) (ht : t < 4) (h24 : nv W (376 + 103 * t + 22) ≤ 24) (h1 : 1 ≤ nv W (376 + 103 * t + 22)) : ∀ (n : Nat) (x2 : Option Value) (h : Int32) (k : Nat), k + n = nv W (376 + 103 * t + 22) - 1 → zEv σ (d + 1) 1899 5 [some (.ref 137), some (.int (Int32.ofNat t)), x2, some (.int h), some (.int (Int32.ofNat k))] [] (zS1, zrow m 138 W, yy) (.inl (some (.int (l_behindPart W t n h k)))) (zS1, zrow m 138 W, yy) := by
  intro n
  induction n with
  | zero =>
    intro x2 h k hk
    refine zeP rfl rfl ?_
    refine zeP rfl rfl ?_
    refine zeP rfl rfl ?_
    refine zeP rfl rfl ?_
    refine zeCF rfl rfl rfl rfl rfl rfl (c_heldBehind (m := m) (W := W) (t := t) (p := k) (h := h) (by first | assumption | omega)) (by omega) ?_
    dsimp only [Option.toList, List.cons_append, List.nil_append]
    refine zeP rfl rfl ?_
    refine zeInc rfl rfl ?_
    refine zeP rfl rfl ?_
    refine zeP rfl rfl ?_
    refine zeP rfl rfl ?_
    refine zeKn (c := 22) rfl rfl rfl ?_
    refine zeCF rfl rfl rfl rfl rfl rfl (c_of (m := m) (W := W) (t := t) (k := 22) (by first | assumption | omega)) (by omega) ?_
    dsimp only [Option.toList, List.cons_append, List.nil_append]
    rw [show q_of W t 22 = Int32.ofNat (nv W (376 + 103 * t + 22)) from (hw.2 t ht).2.2.2.1.1]
    refine zeT2 rfl rfl (zcge (by omega) (by omega) (by omega)) ?_
    refine zeP rfl rfl ?_
    exact zeRe rfl rfl rfl rfl (by rfl) (by rfl)
  | succ n ih =>
    intro x2 h k hk
    refine zeP rfl rfl ?_
    refine zeP rfl rfl ?_
    refine zeP rfl rfl ?_
    refine zeP rfl rfl ?_
    refine zeCF rfl rfl rfl rfl rfl rfl (c_heldBehind (m := m) (W := W) (t := t) (p := k) (h := h) (by first | assumption | omega)) (by omega) ?_
    dsimp only [Option.toList, List.cons_append, List.nil_append]
    refine zeP rfl rfl ?_
    refine zeInc rfl rfl ?_
    refine zeP rfl rfl ?_
    refine zeP rfl rfl ?_
    refine zeP rfl rfl ?_
    refine zeKn (c := 22) rfl rfl rfl ?_
    refine zeCF rfl rfl rfl rfl rfl rfl (c_of (m := m) (W := W) (t := t) (k := 22) (by first | assumption | omega)) (by omega) ?_
    dsimp only [Option.toList, List.cons_append, List.nil_append]
    rw [show q_of W t 22 = Int32.ofNat (nv W (376 + 103 * t + 22)) from (hw.2 t ht).2.2.2.1.1]
    refine zeF2 rfl rfl (zcge_f (by omega) (by omega) (by omega)) ?_
    refine zeP rfl rfl ?_
    refine zeB1 rfl rfl (fun h1 => ?_) (fun h1 => ?_)
    · simp only [l_behindPart, h1, cond_true, cond_false]
      exact ih (x2) ((q_heldBehind W t k h)) ((k + 1))   (by omega) 
    · refine zeP rfl rfl ?_
      exact zeRe rfl rfl rfl rfl (by simp only [l_behindPart, h1, cond_true, cond_false] <;> rfl) (by simp only [l_behindPart, h1, cond_true, cond_false] <;> rfl)
noncomputable def q_behindPart (W : Nat → Int32) (t : Nat) (p : Nat) : Int32 := (l_behindPart W t ((nv W (376 + 103 * t + 22) - 1 - p)) ((Int32.ofNat 0)) p)
theorem p_behindPart {σ : Nat → Nat × (Nat → Int32)} {yy : (Nat → Nat → Int64) × Bool × Nat × Nat} {m : Nat → Nat → Int32} {W : Nat → Int32} {t : Nat} {p : Nat} {d : Nat} (hd : 5 ≤ d + 1) (hw : WG W) (ht : t < 4) (hp : p < nv W (376 + 103 * t + 22)) : zEv σ (d + 1) 1899 0 [some (.ref 137), some (.int (Int32.ofNat t)), some (.int (Int32.ofNat p)), none, none] [] (zS1, zrow m 138 W, yy) (.inl (some (.int (q_behindPart W t p)))) (zS1, zrow m 138 W, yy) := by
  refine zeKn (c := 0) rfl rfl rfl ?_
  refine zeP rfl rfl ?_
  refine zeP rfl rfl ?_
  refine zeP rfl rfl ?_
  simp only [q_behindPart, cond_true, cond_false]
  exact w_behindPart (t := t) (W := W) (m := m) (by omega) hw ht (hw.2 t ht).2.2.2.1.2.2 (by omega) ((nv W (376 + 103 * t + 22) - 1 - p)) (some (.int (Int32.ofNat p))) ((Int32.ofNat 0)) (p)   (by omega) 
theorem c_behindPart {σ : Nat → Nat × (Nat → Int32)} {yy : (Nat → Nat → Int64) × Bool × Nat × Nat} {m : Nat → Nat → Int32} {W : Nat → Int32} {t : Nat} {p : Nat} (hw : WG W) (ht : t < 4) (hp : p < nv W (376 + 103 * t + 22)) : zF σ 5 1899 [.ref 137, .int (Int32.ofNat t), .int (Int32.ofNat p)] (zS1, zrow m 138 W, yy) (.inl (some (.int (q_behindPart W t p)))) (zS1, zrow m 138 W, yy) := by
  intro d hd
  obtain ⟨d, rfl⟩ : ∃ k, d = k + 1 := ⟨d - 1, by omega⟩
  exact p_behindPart hd hw ht hp
end
section
theorem zne1t {a : Nat} (h : a < 2147483648) : zc2 .ne (Int32.ofNat a) (-1) = true := by
  apply decide_eq_true
  intro e
  have h1 := congrArg Int32.toInt e
  rw [zoN h] at h1
  have h2 : (-1 : Int32).toInt = -1 := by decide
  omega
theorem zge_lt {a b : Nat} (ha : a < 2147483648) (hb : b < 2147483648) (h : zc2 .ge (Int32.ofNat a) (Int32.ofNat b) = false) : a < b := by
  apply Nat.lt_of_not_le
  intro q
  rw [zcge ha hb q] at h
  cases h
theorem bpL {W : Nat → Int32} {t : Nat} : ∀ (n : Nat) (h : Int32) (k : Nat), ∃ v, k < v ∧ v ≤ k + n + 1 ∧ l_behindPart W t n h k = Int32.ofNat v := by
  intro n
  induction n with
  | zero => intro h k; exact ⟨k + 1, by omega, by omega, rfl⟩
  | succ n ih =>
    intro h k
    rw [l_behindPart]
    cases zc1 .ne (q_heldBehind W t k h) with
    | true =>
      rw [cond_true]
      obtain ⟨v, a, b, c⟩ := ih (q_heldBehind W t k h) (k + 1)
      exact ⟨v, by omega, by omega, c⟩
    | false => exact ⟨k + 1, by omega, by omega, rfl⟩
noncomputable def bpn (W : Nat → Int32) (t p : Nat) : Nat := (q_behindPart W t p).toNatClampNeg
theorem bp_n {W : Nat → Int32} {t p : Nat} (h : WG W) (ht : t < 4) (hp : p < nv W (376 + 103 * t + 22)) : q_behindPart W t p = Int32.ofNat (bpn W t p) ∧ p < bpn W t p ∧ bpn W t p ≤ nv W (376 + 103 * t + 22) := by
  have h24 := (h.2 t ht).2.2.2.1.2.2
  obtain ⟨v, a, b, c⟩ := bpL (W := W) (t := t) (nv W (376 + 103 * t + 22) - 1 - p) (Int32.ofNat 0) p
  have e : q_behindPart W t p = Int32.ofNat v := c
  unfold bpn
  rw [e, nv_on (by omega)]
  exact ⟨rfl, a, by omega⟩
noncomputable def l_partsOf (W : Nat → Int32) (t : Nat) : Nat → Nat → Nat → Int32
  | 0, c, p => (Int32.ofNat c)
  | n + 1, c, p => (bif zc2 .ge (Int32.ofNat p) (Int32.ofNat (nv W (376 + 103 * t + 22))) then (Int32.ofNat c) else (l_partsOf W t n ((c + 1)) ((bpn W t p))))
theorem w_partsOf {σ : Nat → Nat × (Nat → Int32)} {yy : (Nat → Nat → Int64) × Bool × Nat × Nat} {m : Nat → Nat → Int32} {W : Nat → Int32} {t : Nat} {d : Nat} (hd : 6 ≤ d + 1) (hw : WG W) (ht : t < 4) (h24 : nv W (376 + 103 * t + 22) ≤ 24) : ∀ (n : Nat) (c : Nat) (p : Nat), nv W (376 + 103 * t + 22) ≤ p + n → p ≤ 24 → zEv σ (d + 1) 1900 4 [some (.ref 137), some (.int (Int32.ofNat t)), some (.int (Int32.ofNat c)), some (.int (Int32.ofNat p))] [] (zS1, zrow m 138 W, yy) (.inl (some (.int (l_partsOf W t n c p)))) (zS1, zrow m 138 W, yy) := by
  intro n
  induction n with
  | zero =>
    intro c p hk hp
    refine zeP rfl rfl ?_
    refine zeP rfl rfl ?_
    refine zeP rfl rfl ?_
    refine zeKn (c := 22) rfl rfl rfl ?_
    refine zeCF rfl rfl rfl rfl rfl rfl (c_of (m := m) (W := W) (t := t) (k := 22) (by first | assumption | omega)) (by omega) ?_
    dsimp only [Option.toList, List.cons_append, List.nil_append]
    rw [show q_of W t 22 = Int32.ofNat (nv W (376 + 103 * t + 22)) from (hw.2 t ht).2.2.2.1.1]
    refine zeT2 rfl rfl (zcge (by omega) (by omega) (by omega)) ?_
    refine zeP rfl rfl ?_
    exact zeRe rfl rfl rfl rfl (by rfl) (by rfl)
  | succ n ih =>
    intro c p hk hp
    refine zeP rfl rfl ?_
    refine zeP rfl rfl ?_
    refine zeP rfl rfl ?_
    refine zeKn (c := 22) rfl rfl rfl ?_
    refine zeCF rfl rfl rfl rfl rfl rfl (c_of (m := m) (W := W) (t := t) (k := 22) (by first | assumption | omega)) (by omega) ?_
    dsimp only [Option.toList, List.cons_append, List.nil_append]
    rw [show q_of W t 22 = Int32.ofNat (nv W (376 + 103 * t + 22)) from (hw.2 t ht).2.2.2.1.1]
    refine zeB2 rfl rfl (fun h1 => ?_) (fun h1 => ?_)
    · refine zeP rfl rfl ?_
      exact zeRe rfl rfl rfl rfl (by simp only [l_partsOf, h1, cond_true, cond_false] <;> rfl) (by simp only [l_partsOf, h1, cond_true, cond_false] <;> rfl)
    · refine zeInc rfl rfl ?_
      refine zeP rfl rfl ?_
      refine zeP rfl rfl ?_
      refine zeP rfl rfl ?_
      refine zeCF rfl rfl rfl rfl rfl rfl (c_behindPart (m := m) (W := W) (t := t) (p := p) hw ht (zge_lt (by omega) (by omega) (by assumption))) (by omega) ?_
      dsimp only [Option.toList, List.cons_append, List.nil_append]
      rw [(bp_n (p := p) hw ht (zge_lt (by omega) (by omega) (by assumption))).1]
      refine zeP rfl rfl ?_
      refine zeP rfl rfl ?_
      simp only [l_partsOf, h1, cond_true, cond_false]
      exact ih ((c + 1)) ((bpn W t p))   (by have e := bp_n (p := p) hw ht (zge_lt (by omega) (by omega) (by assumption)); omega) (by have e := bp_n (p := p) hw ht (zge_lt (by omega) (by omega) (by assumption)); omega)
noncomputable def q_partsOf (W : Nat → Int32) (t : Nat) : Int32 := (l_partsOf W t ((nv W (376 + 103 * t + 22))) 0 0)
theorem p_partsOf {σ : Nat → Nat × (Nat → Int32)} {yy : (Nat → Nat → Int64) × Bool × Nat × Nat} {m : Nat → Nat → Int32} {W : Nat → Int32} {t : Nat} {d : Nat} (hd : 6 ≤ d + 1) (hw : WG W) (ht : t < 4) : zEv σ (d + 1) 1900 0 [some (.ref 137), some (.int (Int32.ofNat t)), none, none] [] (zS1, zrow m 138 W, yy) (.inl (some (.int (q_partsOf W t)))) (zS1, zrow m 138 W, yy) := by
  refine zeKn (c := 0) rfl rfl rfl ?_
  refine zeP rfl rfl ?_
  refine zeKn (c := 0) rfl rfl rfl ?_
  refine zeP rfl rfl ?_
  simp only [q_partsOf, cond_true, cond_false]
  exact w_partsOf (t := t) (W := W) (m := m) (by omega) hw ht (hw.2 t ht).2.2.2.1.2.2 ((nv W (376 + 103 * t + 22))) (0) (0)   (by omega) (by omega)
theorem c_partsOf {σ : Nat → Nat × (Nat → Int32)} {yy : (Nat → Nat → Int64) × Bool × Nat × Nat} {m : Nat → Nat → Int32} {W : Nat → Int32} {t : Nat} (hw : WG W) (ht : t < 4) : zF σ 6 1900 [.ref 137, .int (Int32.ofNat t)] (zS1, zrow m 138 W, yy) (.inl (some (.int (q_partsOf W t)))) (zS1, zrow m 138 W, yy) := by
  intro d hd
  obtain ⟨d, rfl⟩ : ∃ k, d = k + 1 := ⟨d - 1, by omega⟩
  exact p_partsOf hd hw ht
noncomputable def q_parts (m : Nat → Nat → Int32) (W : Nat → Int32) (t : Int32) : Int32 × (Nat → Nat → Int32) := (bif zc1 .eq (q_noThread m W t).1 then ((q_partsOf W ((t.toNatClampNeg))), (q_noThread m W t).2) else ((Int32.ofNat 0), (q_noThread m W t).2))
theorem p_parts {σ : Nat → Nat × (Nat → Int32)} {yy : (Nat → Nat → Int64) × Bool × Nat × Nat} {m : Nat → Nat → Int32} {W : Nat → Int32} {t : Int32} {d : Nat} (hd : 7 ≤ d + 1) (hw : WG W) : zEv σ (d + 1) 1901 0 [some (.ref 137), some (.int t)] [] (zS1, zrow m 138 W, yy) (.inl (some (.int (q_parts m W t).1))) (zS1, zrow ((q_parts m W t).2) 138 W, yy) := by
  refine zeP rfl rfl ?_
  refine zeP rfl rfl ?_
  refine zeCF rfl rfl rfl rfl rfl rfl (c_noThread (m := m) (W := W) (t := t) ) (by omega) ?_
  dsimp only [Option.toList, List.cons_append, List.nil_append]
  refine zeB1 rfl rfl (fun h1 => ?_) (fun h1 => ?_)
  · have ct : t = Int32.ofNat t.toNatClampNeg ∧ t.toNatClampNeg < nv W 9 := (nT_in hw (zneF (by assumption)))
    refine zeP rfl rfl ?_
    refine zeKn (c := t.toNatClampNeg) rfl rfl ct.1 ?_
    refine zeCF rfl rfl rfl rfl rfl rfl (c_partsOf (m := (q_noThread m W t).2) (W := W) (t := (t.toNatClampNeg)) hw (by have := hw.N4; omega)) (by omega) ?_
    dsimp only [Option.toList, List.cons_append, List.nil_append]
    exact zeRe rfl rfl rfl rfl (by simp only [q_parts, h1, cond_true, cond_false] <;> rfl) (by simp only [q_parts, h1, cond_true, cond_false] <;> rfl)
  · refine zeKn (c := 0) rfl rfl rfl ?_
    refine zeP rfl rfl ?_
    exact zeRe rfl rfl rfl rfl (by simp only [q_parts, h1, cond_true, cond_false] <;> rfl) (by simp only [q_parts, h1, cond_true, cond_false] <;> rfl)
theorem c_parts {σ : Nat → Nat × (Nat → Int32)} {yy : (Nat → Nat → Int64) × Bool × Nat × Nat} {m : Nat → Nat → Int32} {W : Nat → Int32} {t : Int32} (hw : WG W) : zF σ 7 1901 [.ref 137, .int t] (zS1, zrow m 138 W, yy) (.inl (some (.int (q_parts m W t).1))) (zS1, zrow ((q_parts m W t).2) 138 W, yy) := by
  intro d hd
  obtain ⟨d, rfl⟩ : ∃ k, d = k + 1 := ⟨d - 1, by omega⟩
  exact p_parts hd hw
theorem goesT_ok {q : Nat} : ∀ (n k : Nat) (W : Nat → Int32) (m : Nat → Nat → Int32), WG W → LT W → WG (l_goesT q n k W m).2.1 ∧ LT (l_goesT q n k W m).2.1 := by
  intro n
  induction n with
  | zero => intro k W m h hL; exact ⟨h, hL⟩
  | succ n ih =>
    intro k W m h hL
    rw [l_goesT]
    refine cndh (fun q : QT => WG q.2.1 ∧ LT q.2.1) (fun _ => ⟨h, hL⟩) (fun hc => cndi (fun q : QT => WG q.2.1 ∧ LT q.2.1) ⟨h, hL⟩ ?_)
    obtain ⟨-, n4, nk⟩ := next_n h hL hc
    have hs := steps_ok (m := m) nk n4
    exact ih _ _ _ hs.1 (LT_of hs.2 n4)
theorem goesD_ok {q : Nat} : ∀ (n k : Nat) (W : Nat → Int32) (m : Nat → Nat → Int32), WG W → LT W → WG (l_goesD q n k W m).2.1 ∧ LT (l_goesD q n k W m).2.1 := by
  intro n
  induction n with
  | zero => intro k W m h hL; exact ⟨h, hL⟩
  | succ n ih =>
    intro k W m h hL
    rw [l_goesD]
    refine cndh (fun q : QT => WG q.2.1 ∧ LT q.2.1) (fun _ => ⟨h, hL⟩) (fun hc => cndi (fun q : QT => WG q.2.1 ∧ LT q.2.1) ⟨h, hL⟩ ?_)
    obtain ⟨-, n4, nk⟩ := drawn_n h hc
    have hs := steps_ok (m := m) nk n4
    exact ih _ _ _ hs.1 (LT_of hs.2 n4)
noncomputable def l_dueOfX : Nat → Nat → (Nat → Int32) → (Nat → Nat → Int32) → Int32 × (Nat → Int32) × (Nat → Nat → Int32)
  | 0, k, W, m => ((-1), W, m)
  | n + 1, k, W, m => (bif zc1 .eq (q_areAllDone W) then (bif zc2 .ge (Int32.ofNat k) (Int32.ofNat 400) then (l_dueOfX n ((k + 1)) W m) else (bif zc2 .eq (W 11) (Int32.ofNat 99999) then ((-1), W, m) else (bif zc1 .ne (q_goesT m W 1).1 then (l_dueOfX n ((k + 1)) ((q_goesT m W 1).2.1) ((q_goesT m W 1).2.2)) else ((-1), (q_goesT m W 1).2.1, (q_goesT m W 1).2.2)))) else ((Int32.ofNat k), W, m))
theorem w_dueOfX {σ : Nat → Nat × (Nat → Int32)} {yy : (Nat → Nat → Int64) × Bool × Nat × Nat} {d : Nat} (hd : 11 ≤ d + 1) : ∀ (n : Nat) (k : Nat) (W : Nat → Int32) (m : Nat → Nat → Int32), k + n = 401 → WG W → LT W → zEv σ (d + 1) 1889 2 [some (.ref 137), some (.int (-1)), some (.int (Int32.ofNat k))] [] (zS1, zrow m 138 W, yy) (.inl (some (.int (l_dueOfX n k W m).1))) (zS1, zrow ((l_dueOfX n k W m).2.2) 138 ((l_dueOfX n k W m).2.1), yy) := by
  intro n
  induction n with
  | zero =>
    intro k W m hk hw hL
    refine zeP rfl rfl ?_
    refine zeKn (c := 400) rfl rfl rfl ?_
    refine zeT2 rfl rfl (zcgt (by omega) (by omega) (by omega)) ?_
    refine zeK (v := -1) rfl rfl rfl ?_
    exact zeRe rfl rfl rfl rfl (by rfl) (by rfl)
  | succ n ih =>
    intro k W m hk hw hL
    refine zeP rfl rfl ?_
    refine zeKn (c := 400) rfl rfl rfl ?_
    refine zeF2 rfl rfl (zcgt_f (by omega) (by omega) (by omega)) ?_
    refine zeP rfl rfl ?_
    refine zeK (v := -1) rfl rfl rfl ?_
    refine zeF2 rfl rfl (show zc2 .ne (-1) (-1) = false by decide) ?_
    refine zeP rfl rfl ?_
    refine zeCF rfl rfl rfl rfl rfl rfl (c_areAllDone (m := m) (W := W)  hw.N hw.N4) (by omega) ?_
    dsimp only [Option.toList, List.cons_append, List.nil_append]
    refine zeB1 rfl rfl (fun h1 => ?_) (fun h1 => ?_)
    · refine zeP rfl rfl ?_
      refine zeKn (c := 400) rfl rfl rfl ?_
      refine zeB2 rfl rfl (fun h2 => ?_) (fun h2 => ?_)
      · refine zeInc rfl rfl ?_
        refine zeP rfl rfl ?_
        simp only [l_dueOfX, h1, h2, cond_true, cond_false]
        exact ih ((k + 1)) W m (by omega) (by first | exact hw | exact (goesT_ok _ _ _ _ hw hL).1) (by first | exact hL | exact (goesT_ok _ _ _ _ hw hL).2)
      · refine zeP rfl rfl ?_
        refine zeGR rfl rfl zS137 rfl rfl ?_
        refine zeKn (c := 11) rfl rfl rfl ?_
        refine zeWL (k := 11) rfl (by omega) ?_
        refine zeKn (c := 99999) rfl rfl rfl ?_
        refine zeB2 rfl rfl (fun h3 => ?_) (fun h3 => ?_)
        · refine zeK (v := -1) rfl rfl rfl ?_
          exact zeRe rfl rfl rfl rfl (by simp only [l_dueOfX, h1, h2, h3, cond_true, cond_false] <;> rfl) (by simp only [l_dueOfX, h1, h2, h3, cond_true, cond_false] <;> rfl)
        · refine zeP rfl rfl ?_
          refine zeKn (c := 1) rfl rfl rfl ?_
          refine zeKn (c := 0) rfl rfl rfl ?_
          refine zeCF rfl rfl rfl rfl rfl rfl (c_goesT (m := m) (W := W) (q := 1) (by omega) hw hL) (by omega) ?_
          dsimp only [Option.toList, List.cons_append, List.nil_append]
          refine zeB1 rfl rfl (fun h4 => ?_) (fun h4 => ?_)
          · refine zeInc rfl rfl ?_
            refine zeP rfl rfl ?_
            simp only [l_dueOfX, h1, h2, h3, h4, cond_true, cond_false]
            exact ih ((k + 1)) ((q_goesT m W 1).2.1) ((q_goesT m W 1).2.2) (by omega) (by first | exact hw | exact (goesT_ok _ _ _ _ hw hL).1) (by first | exact hL | exact (goesT_ok _ _ _ _ hw hL).2)
          · refine zeK (v := -1) rfl rfl rfl ?_
            exact zeRe rfl rfl rfl rfl (by simp only [l_dueOfX, h1, h2, h3, h4, cond_true, cond_false] <;> rfl) (by simp only [l_dueOfX, h1, h2, h3, h4, cond_true, cond_false] <;> rfl)
    · refine zeP rfl rfl ?_
      refine zeP rfl rfl ?_
      exact zeRe rfl rfl rfl rfl (by simp only [l_dueOfX, h1, cond_true, cond_false] <;> rfl) (by simp only [l_dueOfX, h1, cond_true, cond_false] <;> rfl)
noncomputable def q_dueOfX (m : Nat → Nat → Int32) (W : Nat → Int32) : Int32 × (Nat → Int32) × (Nat → Nat → Int32) := (l_dueOfX 401 0 W m)
theorem p_dueOfX {σ : Nat → Nat × (Nat → Int32)} {yy : (Nat → Nat → Int64) × Bool × Nat × Nat} {m : Nat → Nat → Int32} {W : Nat → Int32} {d : Nat} (hd : 11 ≤ d + 1) (hw : WG W) (hL : LT W) : zEv σ (d + 1) 1889 0 [some (.ref 137), some (.int (-1)), none] [] (zS1, zrow m 138 W, yy) (.inl (some (.int (q_dueOfX m W).1))) (zS1, zrow ((q_dueOfX m W).2.2) 138 ((q_dueOfX m W).2.1), yy) := by
  refine zeKn (c := 0) rfl rfl rfl ?_
  refine zeP rfl rfl ?_
  simp only [q_dueOfX, cond_true, cond_false]
  exact w_dueOfX  (by omega)  401 (0) W m (by omega) hw hL
theorem c_dueOfX {σ : Nat → Nat × (Nat → Int32)} {yy : (Nat → Nat → Int64) × Bool × Nat × Nat} {m : Nat → Nat → Int32} {W : Nat → Int32} (hw : WG W) (hL : LT W) : zF σ 11 1889 [.ref 137, .int (-1)] (zS1, zrow m 138 W, yy) (.inl (some (.int (q_dueOfX m W).1))) (zS1, zrow ((q_dueOfX m W).2.2) 138 ((q_dueOfX m W).2.1), yy) := by
  intro d hd
  obtain ⟨d, rfl⟩ : ∃ k, d = k + 1 := ⟨d - 1, by omega⟩
  exact p_dueOfX hd hw hL
noncomputable def l_dueOf (t : Nat) : Nat → Nat → (Nat → Int32) → (Nat → Nat → Int32) → Int32 × (Nat → Int32) × (Nat → Nat → Int32)
  | 0, k, W, m => ((-1), W, m)
  | n + 1, k, W, m => (bif zc1 .eq (q_isDone W t) then (bif zc2 .ge (Int32.ofNat k) (Int32.ofNat 400) then (l_dueOf t n ((k + 1)) W m) else (bif zc2 .eq (W 11) (Int32.ofNat 99999) then ((-1), W, m) else (bif zc1 .ne (q_goesT m W 1).1 then (l_dueOf t n ((k + 1)) ((q_goesT m W 1).2.1) ((q_goesT m W 1).2.2)) else ((-1), (q_goesT m W 1).2.1, (q_goesT m W 1).2.2)))) else ((Int32.ofNat k), W, m))
theorem w_dueOf {σ : Nat → Nat × (Nat → Int32)} {yy : (Nat → Nat → Int64) × Bool × Nat × Nat} {t : Nat} {d : Nat} (hd : 11 ≤ d + 1) (ht : t < 4) : ∀ (n : Nat) (k : Nat) (W : Nat → Int32) (m : Nat → Nat → Int32), k + n = 401 → WG W → LT W → zEv σ (d + 1) 1889 2 [some (.ref 137), some (.int (Int32.ofNat t)), some (.int (Int32.ofNat k))] [] (zS1, zrow m 138 W, yy) (.inl (some (.int (l_dueOf t n k W m).1))) (zS1, zrow ((l_dueOf t n k W m).2.2) 138 ((l_dueOf t n k W m).2.1), yy) := by
  intro n
  induction n with
  | zero =>
    intro k W m hk hw hL
    refine zeP rfl rfl ?_
    refine zeKn (c := 400) rfl rfl rfl ?_
    refine zeT2 rfl rfl (zcgt (by omega) (by omega) (by omega)) ?_
    refine zeK (v := -1) rfl rfl rfl ?_
    exact zeRe rfl rfl rfl rfl (by rfl) (by rfl)
  | succ n ih =>
    intro k W m hk hw hL
    refine zeP rfl rfl ?_
    refine zeKn (c := 400) rfl rfl rfl ?_
    refine zeF2 rfl rfl (zcgt_f (by omega) (by omega) (by omega)) ?_
    refine zeP rfl rfl ?_
    refine zeK (v := -1) rfl rfl rfl ?_
    refine zeT2 rfl rfl (zne1t (by omega)) ?_
    refine zeP rfl rfl ?_
    refine zeP rfl rfl ?_
    refine zeCF rfl rfl rfl rfl rfl rfl (c_isDone (m := m) (W := W) (t := t) ht) (by omega) ?_
    dsimp only [Option.toList, List.cons_append, List.nil_append]
    refine zeB1 rfl rfl (fun h1 => ?_) (fun h1 => ?_)
    · refine zeP rfl rfl ?_
      refine zeKn (c := 400) rfl rfl rfl ?_
      refine zeB2 rfl rfl (fun h2 => ?_) (fun h2 => ?_)
      · refine zeInc rfl rfl ?_
        refine zeP rfl rfl ?_
        simp only [l_dueOf, h1, h2, cond_true, cond_false]
        exact ih ((k + 1)) W m (by omega) (by first | exact hw | exact (goesT_ok _ _ _ _ hw hL).1) (by first | exact hL | exact (goesT_ok _ _ _ _ hw hL).2)
      · refine zeP rfl rfl ?_
        refine zeGR rfl rfl zS137 rfl rfl ?_
        refine zeKn (c := 11) rfl rfl rfl ?_
        refine zeWL (k := 11) rfl (by omega) ?_
        refine zeKn (c := 99999) rfl rfl rfl ?_
        refine zeB2 rfl rfl (fun h3 => ?_) (fun h3 => ?_)
        · refine zeK (v := -1) rfl rfl rfl ?_
          exact zeRe rfl rfl rfl rfl (by simp only [l_dueOf, h1, h2, h3, cond_true, cond_false] <;> rfl) (by simp only [l_dueOf, h1, h2, h3, cond_true, cond_false] <;> rfl)
        · refine zeP rfl rfl ?_
          refine zeKn (c := 1) rfl rfl rfl ?_
          refine zeKn (c := 0) rfl rfl rfl ?_
          refine zeCF rfl rfl rfl rfl rfl rfl (c_goesT (m := m) (W := W) (q := 1) (by omega) hw hL) (by omega) ?_
          dsimp only [Option.toList, List.cons_append, List.nil_append]
          refine zeB1 rfl rfl (fun h4 => ?_) (fun h4 => ?_)
          · refine zeInc rfl rfl ?_
            refine zeP rfl rfl ?_
            simp only [l_dueOf, h1, h2, h3, h4, cond_true, cond_false]
            exact ih ((k + 1)) ((q_goesT m W 1).2.1) ((q_goesT m W 1).2.2) (by omega) (by first | exact hw | exact (goesT_ok _ _ _ _ hw hL).1) (by first | exact hL | exact (goesT_ok _ _ _ _ hw hL).2)
          · refine zeK (v := -1) rfl rfl rfl ?_
            exact zeRe rfl rfl rfl rfl (by simp only [l_dueOf, h1, h2, h3, h4, cond_true, cond_false] <;> rfl) (by simp only [l_dueOf, h1, h2, h3, h4, cond_true, cond_false] <;> rfl)
    · refine zeP rfl rfl ?_
      exact zeRe rfl rfl rfl rfl (by simp only [l_dueOf, h1, cond_true, cond_false] <;> rfl) (by simp only [l_dueOf, h1, cond_true, cond_false] <;> rfl)
noncomputable def q_dueOf (m : Nat → Nat → Int32) (W : Nat → Int32) (t : Nat) : Int32 × (Nat → Int32) × (Nat → Nat → Int32) := (l_dueOf t 401 0 W m)
theorem p_dueOf {σ : Nat → Nat × (Nat → Int32)} {yy : (Nat → Nat → Int64) × Bool × Nat × Nat} {m : Nat → Nat → Int32} {W : Nat → Int32} {t : Nat} {d : Nat} (hd : 11 ≤ d + 1) (hw : WG W) (hL : LT W) (ht : t < 4) : zEv σ (d + 1) 1889 0 [some (.ref 137), some (.int (Int32.ofNat t)), none] [] (zS1, zrow m 138 W, yy) (.inl (some (.int (q_dueOf m W t).1))) (zS1, zrow ((q_dueOf m W t).2.2) 138 ((q_dueOf m W t).2.1), yy) := by
  refine zeKn (c := 0) rfl rfl rfl ?_
  refine zeP rfl rfl ?_
  simp only [q_dueOf, cond_true, cond_false]
  exact w_dueOf (t := t) (by omega) ht 401 (0) W m (by omega) hw hL
theorem c_dueOf {σ : Nat → Nat × (Nat → Int32)} {yy : (Nat → Nat → Int64) × Bool × Nat × Nat} {m : Nat → Nat → Int32} {W : Nat → Int32} {t : Nat} (hw : WG W) (hL : LT W) (ht : t < 4) : zF σ 11 1889 [.ref 137, .int (Int32.ofNat t)] (zS1, zrow m 138 W, yy) (.inl (some (.int (q_dueOf m W t).1))) (zS1, zrow ((q_dueOf m W t).2.2) 138 ((q_dueOf m W t).2.1), yy) := by
  intro d hd
  obtain ⟨d, rfl⟩ : ∃ k, d = k + 1 := ⟨d - 1, by omega⟩
  exact p_dueOf hd hw hL ht
noncomputable def q_due (m : Nat → Nat → Int32) (W : Nat → Int32) (t : Int32) : Int32 × (Nat → Int32) × (Nat → Nat → Int32) := (bif zc1 .eq (q_noThread m W t).1 then ((q_dueOf ((zrow ((q_noThread m W t).2) 140 (crow W (((q_noThread m W t).2) 140)))) W ((t.toNatClampNeg))).1, (crow (((q_dueOf ((zrow ((q_noThread m W t).2) 140 (crow W (((q_noThread m W t).2) 140)))) W ((t.toNatClampNeg))).2.2) 140) ((q_dueOf ((zrow ((q_noThread m W t).2) 140 (crow W (((q_noThread m W t).2) 140)))) W ((t.toNatClampNeg))).2.1)), (q_dueOf ((zrow ((q_noThread m W t).2) 140 (crow W (((q_noThread m W t).2) 140)))) W ((t.toNatClampNeg))).2.2) else ((Int32.ofNat 0), W, (q_noThread m W t).2))
theorem p_due {σ : Nat → Nat × (Nat → Int32)} {yy : (Nat → Nat → Int64) × Bool × Nat × Nat} {m : Nat → Nat → Int32} {W : Nat → Int32} {t : Int32} {d : Nat} (hd : 12 ≤ d + 1) (hw : WG W) (hL : LT W) : zEv σ (d + 1) 1890 0 [some (.ref 137), some (.int t), none] [] (zS1, zrow m 138 W, yy) (.inl (some (.int (q_due m W t).1))) (zS1, zrow ((q_due m W t).2.2) 138 ((q_due m W t).2.1), yy) := by
  refine zeP rfl rfl ?_
  refine zeP rfl rfl ?_
  refine zeCF rfl rfl rfl rfl rfl rfl (c_noThread (m := m) (W := W) (t := t) ) (by omega) ?_
  dsimp only [Option.toList, List.cons_append, List.nil_append]
  refine zeB1 rfl rfl (fun h1 => ?_) (fun h1 => ?_)
  · have ct : t = Int32.ofNat t.toNatClampNeg ∧ t.toNatClampNeg < nv W 9 := (nT_in hw (zneF (by assumption)))
    refine zeP rfl rfl ?_
    refine zeGR rfl rfl zS137 rfl rfl ?_
    refine zeP rfl rfl ?_
    refine zeGR rfl rfl zS137 rfl rfl ?_
    refine zeCF rfl rfl rfl rfl rfl rfl (c_cpF (m := (q_noThread m W t).2) (W := W) (b := 140) (by decide) rfl) (by omega) ?_
    dsimp only [Option.toList, List.cons_append, List.nil_append]
    refine zeP rfl rfl ?_
    refine zeKn (c := t.toNatClampNeg) rfl rfl ct.1 ?_
    refine zeCF rfl rfl rfl rfl rfl rfl (c_dueOf (m := (zrow ((q_noThread m W t).2) 140 (crow W (((q_noThread m W t).2) 140)))) (W := W) (t := (t.toNatClampNeg)) hw hL (by have := hw.N4; omega)) (by omega) ?_
    dsimp only [Option.toList, List.cons_append, List.nil_append]
    refine zeP rfl rfl ?_
    refine zeP rfl rfl ?_
    refine zeGR rfl rfl zS137 rfl rfl ?_
    refine zeP rfl rfl ?_
    refine zeGR rfl rfl zS137 rfl rfl ?_
    refine zeCF rfl rfl rfl rfl rfl rfl (c_cpB (m := (q_dueOf ((zrow ((q_noThread m W t).2) 140 (crow W (((q_noThread m W t).2) 140)))) W ((t.toNatClampNeg))).2.2) (W := (q_dueOf ((zrow ((q_noThread m W t).2) 140 (crow W (((q_noThread m W t).2) 140)))) W ((t.toNatClampNeg))).2.1) (b := 140) (by decide) rfl rfl) (by omega) ?_
    dsimp only [Option.toList, List.cons_append, List.nil_append]
    refine zeP rfl rfl ?_
    exact zeRe rfl rfl rfl rfl (by simp only [q_due, h1, cond_true, cond_false] <;> rfl) (by simp only [q_due, h1, cond_true, cond_false] <;> rfl)
  · refine zeKn (c := 0) rfl rfl rfl ?_
    exact zeRe rfl rfl rfl rfl (by simp only [q_due, h1, cond_true, cond_false] <;> rfl) (by simp only [q_due, h1, cond_true, cond_false] <;> rfl)
theorem c_due {σ : Nat → Nat × (Nat → Int32)} {yy : (Nat → Nat → Int64) × Bool × Nat × Nat} {m : Nat → Nat → Int32} {W : Nat → Int32} {t : Int32} (hw : WG W) (hL : LT W) : zF σ 12 1890 [.ref 137, .int t] (zS1, zrow m 138 W, yy) (.inl (some (.int (q_due m W t).1))) (zS1, zrow ((q_due m W t).2.2) 138 ((q_due m W t).2.1), yy) := by
  intro d hd
  obtain ⟨d, rfl⟩ : ∃ k, d = k + 1 := ⟨d - 1, by omega⟩
  exact p_due hd hw hL
theorem WG.need {W : Nat → Int32} (h : WG W) (x : Int32) : WG (upd W 4 x) := h.put _ (fre_lo (by omega) (by omega))
theorem LT.put {W : Nat → Int32} (h : LT W) {k : Nat} (x : Int32) (hk : 12 ≠ k) : LT (upd W k x) := by
  unfold LT lt1 at *
  rw [upd_ne _ _ hk]; exact h
noncomputable def q_dueBy (m : Nat → Nat → Int32) (W : Nat → Int32) (b : Nat) : Int32 × (Nat → Int32) × (Nat → Nat → Int32) := ((q_dueOfX ((zrow m 140 (crow W (m 140)))) ((upd W 4 (Int32.ofNat b)))).1, (crow (((q_dueOfX ((zrow m 140 (crow W (m 140)))) ((upd W 4 (Int32.ofNat b)))).2.2) 140) ((q_dueOfX ((zrow m 140 (crow W (m 140)))) ((upd W 4 (Int32.ofNat b)))).2.1)), (q_dueOfX ((zrow m 140 (crow W (m 140)))) ((upd W 4 (Int32.ofNat b)))).2.2)
theorem p_dueBy {σ : Nat → Nat × (Nat → Int32)} {yy : (Nat → Nat → Int64) × Bool × Nat × Nat} {m : Nat → Nat → Int32} {W : Nat → Int32} {b : Nat} {d : Nat} (hd : 12 ≤ d + 1) (hw : WG W) (hL : LT W) : zEv σ (d + 1) 1891 0 [some (.ref 137), some (.int (Int32.ofNat b)), none] [] (zS1, zrow m 138 W, yy) (.inl (some (.int (q_dueBy m W b).1))) (zS1, zrow ((q_dueBy m W b).2.2) 138 ((q_dueBy m W b).2.1), yy) := by
  refine zeP rfl rfl ?_
  refine zeGR rfl rfl zS137 rfl rfl ?_
  refine zeP rfl rfl ?_
  refine zeGR rfl rfl zS137 rfl rfl ?_
  refine zeCF rfl rfl rfl rfl rfl rfl (c_cpF (m := m) (W := W) (b := 140) (by decide) rfl) (by omega) ?_
  dsimp only [Option.toList, List.cons_append, List.nil_append]
  refine zeP rfl rfl ?_
  refine zeGR rfl rfl zS137 rfl rfl ?_
  refine zeKn (c := 4) rfl rfl rfl ?_
  refine zeP rfl rfl ?_
  refine zeWS (k := 4) rfl (by omega) ?_
  refine zeP rfl rfl ?_
  refine zeK (v := -1) rfl rfl rfl ?_
  refine zeCF rfl rfl rfl rfl rfl rfl (c_dueOfX (m := (zrow m 140 (crow W (m 140)))) (W := (upd W 4 (Int32.ofNat b)))  (hw.need _) (hL.put _ (by omega))) (by omega) ?_
  dsimp only [Option.toList, List.cons_append, List.nil_append]
  refine zeP rfl rfl ?_
  refine zeP rfl rfl ?_
  refine zeGR rfl rfl zS137 rfl rfl ?_
  refine zeP rfl rfl ?_
  refine zeGR rfl rfl zS137 rfl rfl ?_
  refine zeCF rfl rfl rfl rfl rfl rfl (c_cpB (m := (q_dueOfX ((zrow m 140 (crow W (m 140)))) ((upd W 4 (Int32.ofNat b)))).2.2) (W := (q_dueOfX ((zrow m 140 (crow W (m 140)))) ((upd W 4 (Int32.ofNat b)))).2.1) (b := 140) (by decide) rfl rfl) (by omega) ?_
  dsimp only [Option.toList, List.cons_append, List.nil_append]
  refine zeP rfl rfl ?_
  exact zeRe rfl rfl rfl rfl (by rfl) (by rfl)
theorem c_dueBy {σ : Nat → Nat × (Nat → Int32)} {yy : (Nat → Nat → Int64) × Bool × Nat × Nat} {m : Nat → Nat → Int32} {W : Nat → Int32} {b : Nat} (hw : WG W) (hL : LT W) : zF σ 12 1891 [.ref 137, .int (Int32.ofNat b)] (zS1, zrow m 138 W, yy) (.inl (some (.int (q_dueBy m W b).1))) (zS1, zrow ((q_dueBy m W b).2.2) 138 ((q_dueBy m W b).2.1), yy) := by
  intro d hd
  obtain ⟨d, rfl⟩ : ∃ k, d = k + 1 := ⟨d - 1, by omega⟩
  exact p_dueBy hd hw hL
noncomputable def q_plain (m : Nat → Nat → Int32) (W : Nat → Int32) : Int32 × (Nat → Int32) × (Nat → Nat → Int32) := ((q_dueBy ((zm2 m 137 0 (Int32.ofNat 0))) W 16).1, (q_dueBy ((zm2 m 137 0 (Int32.ofNat 0))) W 16).2.1, (q_dueBy ((zm2 m 137 0 (Int32.ofNat 0))) W 16).2.2)
theorem p_plain {σ : Nat → Nat × (Nat → Int32)} {yy : (Nat → Nat → Int64) × Bool × Nat × Nat} {m : Nat → Nat → Int32} {W : Nat → Int32} {d : Nat} (hd : 13 ≤ d + 1) (hw : WG W) (hL : LT W) : zEv σ (d + 1) 1893 0 [some (.ref 137)] [] (zS1, zrow m 138 W, yy) (.inl (some (.int (q_plain m W).1))) (zS1, zrow ((q_plain m W).2.2) 138 ((q_plain m W).2.1), yy) := by
  refine zeP rfl rfl ?_
  refine zeKn (c := 0) rfl rfl rfl ?_
  refine zeFP rfl rfl rfl ?_
  refine zeP rfl rfl ?_
  refine zeKn (c := 16) rfl rfl rfl ?_
  refine zeCF rfl rfl rfl rfl rfl rfl (c_dueBy (m := (zm2 m 137 0 (Int32.ofNat 0))) (W := W) (b := 16) hw hL) (by omega) ?_
  dsimp only [Option.toList, List.cons_append, List.nil_append]
  exact zeRe rfl rfl rfl rfl (by rfl) (by rfl)
theorem c_plain {σ : Nat → Nat × (Nat → Int32)} {yy : (Nat → Nat → Int64) × Bool × Nat × Nat} {m : Nat → Nat → Int32} {W : Nat → Int32} (hw : WG W) (hL : LT W) : zF σ 13 1893 [.ref 137] (zS1, zrow m 138 W, yy) (.inl (some (.int (q_plain m W).1))) (zS1, zrow ((q_plain m W).2.2) 138 ((q_plain m W).2.1), yy) := by
  intro d hd
  obtain ⟨d, rfl⟩ : ∃ k, d = k + 1 := ⟨d - 1, by omega⟩
  exact p_plain hd hw hL
end
section
/-! beside its own fields the reference's object leaves all rows but the world's -/
noncomputable def MF (m m' : Nat → Nat → Int32) : Prop := ∀ i, i ≠ 137 → m' i = m i
theorem MF.rf (m : Nat → Nat → Int32) : MF m m := fun _ _ => rfl
theorem MF.tr {a b c : Nat → Nat → Int32} (h : MF a b) (g : MF b c) : MF a c := fun i hi => (g i hi).trans (h i hi)
theorem MF.p (m : Nat → Nat → Int32) (k : Nat) (x : Int32) : MF m (zm2 m 137 k x) := fun i hi => if_neg hi
theorem itFalls_mf {m : Nat → Nat → Int32} {W : Nat → Int32} {t y : Nat} : MF m (q_itFalls m W t y).2 := MF.p m 5 _
theorem clears_mf {m : Nat → Nat → Int32} {W : Nat → Int32} {t : Nat} {s : Int32} : MF m (q_clears m W t s).2.2 := by
  unfold q_clears
  exact cndi (fun q : QT => MF m q.2.2) (MF.rf m) (MF.p m 5 _)
theorem reads_mf {m : Nat → Nat → Int32} {W : Nat → Int32} {t : Nat} {w : Int32} : MF m (q_reads m W t w).2.2 := by
  unfold q_reads
  have h := clears_mf (m := m) (W := W) (t := t) (s := q_clash W (Int32.ofNat t) (q_blockOf W w) (Int32.ofNat 0))
  generalize q_clears m W t (q_clash W (Int32.ofNat t) (q_blockOf W w) (Int32.ofNat 0)) = c at h ⊢
  exact cndi (fun q : QT => MF m q.2.2) (cndi (fun q : QT => MF m q.2.2) h h) h
theorem writesB_mf {m : Nat → Nat → Int32} {W : Nat → Int32} {t w : Nat} {v b g : Int32} : MF m (q_writesB m W t w v b g).2.2 := by
  unfold q_writesB
  have h := clears_mf (m := m) (W := W) (t := t) (s := q_clash W (Int32.ofNat t) b (Int32.ofNat 1))
  generalize q_clears m W t (q_clash W (Int32.ofNat t) b (Int32.ofNat 1)) = c at h ⊢
  exact cndi (fun q : QT => MF m q.2.2) (cndi (fun q : QT => MF m q.2.2) h h) h
theorem writes_mf {m : Nat → Nat → Int32} {W : Nat → Int32} {t w : Nat} {v : Int32} : MF m (q_writes m W t w v).2.2 := by
  unfold q_writes
  exact cndi (fun q : QT => MF m q.2.2) writesB_mf (cndi (fun q : QT => MF m q.2.2) writesB_mf (cndi (fun q : QT => MF m q.2.2) writesB_mf itFalls_mf))
theorem takesD_mf {m : Nat → Nat → Int32} {W : Nat → Int32} {t l w : Nat} {f : Int32} : MF m (q_takesD m W t l w f).2.2 := by
  unfold q_takesD
  exact cndi (fun q : QT => MF m q.2.2) itFalls_mf itFalls_mf
theorem takesC_mf {m : Nat → Nat → Int32} {W : Nat → Int32} {t l w : Nat} {f : Int32} : MF m (q_takesC m W t l w f).2.2 := by
  unfold q_takesC
  have aD := takesD_mf (m := m) (W := W) (t := t) (l := l) (w := w) (f := f)
  have aw := writes_mf (m := m) (W := W) (t := t) (w := w) (v := Int32.ofNat 1)
  generalize q_takesD m W t l w f = cD at aD ⊢
  generalize q_writes m W t w (Int32.ofNat 1) = cw at aw ⊢
  exact cndi (fun q : QT => MF m q.2.2) (cndi (fun q : QT => MF m q.2.2) (cndi (fun q : QT => MF m q.2.2) aw (cndi (fun q : QT => MF m q.2.2) aw (MF.rf m))) (MF.rf m)) (cndi (fun q : QT => MF m q.2.2) aD (cndi (fun q : QT => MF m q.2.2) (cndi (fun q : QT => MF m q.2.2) (MF.rf m) aw) aD))
theorem takesB_mf {m : Nat → Nat → Int32} {W : Nat → Int32} {t l w : Nat} : MF m (q_takesB m W t l w).2.2 := by
  unfold q_takesB
  exact cndi (fun q : QT => MF m q.2.2) takesC_mf takesC_mf
theorem takes_mf {m : Nat → Nat → Int32} {W : Nat → Int32} {t l : Nat} : MF m (q_takes m W t l).2.2 := by
  unfold q_takes
  have h := reads_mf (m := m) (W := W) (t := t) (w := Int32.ofNat (nv W (16 + l)))
  generalize q_reads m W t (Int32.ofNat (nv W (16 + l))) = c at h ⊢
  exact cndi (fun q : QT => MF m q.2.2) (h.tr takesB_mf) h
theorem drops_mf {m : Nat → Nat → Int32} {W : Nat → Int32} {t l : Nat} : MF m (q_drops m W t l).2.2 := by
  unfold q_drops
  have h := writes_mf (m := m) (W := W) (t := t) (w := nv W (16 + l)) (v := Int32.ofNat 0)
  have g := itFalls_mf (m := m) (W := W) (t := t) (y := 2)
  generalize q_writes m W t (nv W (16 + l)) (Int32.ofNat 0) = c at h ⊢
  generalize q_itFalls m W t 2 = c2 at g ⊢
  exact cndi (fun q : QT => MF m q.2.2) (cndi (fun q : QT => MF m q.2.2) (cndi (fun q : QT => MF m q.2.2) (MF.rf m) (MF.rf m)) g) (cndi (fun q : QT => MF m q.2.2) (cndi (fun q : QT => MF m q.2.2) h h) (cndi (fun q : QT => MF m q.2.2) h h))
theorem putsOut_mf {m : Nat → Nat → Int32} {W : Nat → Int32} {t : Nat} : MF m (q_putsOut m W t).2.2 := by
  unfold q_putsOut
  have g := itFalls_mf (m := m) (W := W) (t := t) (y := 3)
  generalize q_itFalls m W t 3 = c2 at g ⊢
  exact cndi (fun q : QT => MF m q.2.2) (cndi (fun q : QT => MF m q.2.2) (MF.rf m) (MF.rf m)) g
theorem does_mf {m : Nat → Nat → Int32} {W : Nat → Int32} {t K n : Nat} (hK : K < 8) : MF m (q_does m W t K n).2.2 := by
  match K, hK with
  | 0, _ => exact takes_mf
  | 1, _ => exact drops_mf
  | 2, _ =>
    show MF m (q_does2 m W t n).2.2
    unfold q_does2
    have h := reads_mf (m := m) (W := W) (t := t) (w := Int32.ofNat n)
    generalize q_reads m W t (Int32.ofNat n) = c at h ⊢
    exact cndi (fun q : QT => MF m q.2.2) h h
  | 3, _ => exact writes_mf
  | 4, _ => exact MF.rf m
  | 5, _ => exact MF.rf m
  | 6, _ => exact MF.rf m
  | 7, _ => exact putsOut_mf
theorem stepsD_mf {m : Nat → Nat → Int32} {W : Nat → Int32} {t : Nat} {on : Int32} : MF m (q_stepsD m W t on).2.2 := by
  unfold q_stepsD
  have g := itFalls_mf (m := m) (W := W) (t := t) (y := 2)
  generalize q_itFalls m W t 2 = c2 at g ⊢
  exact cndi (fun q : QT => MF m q.2.2) (MF.rf m) (cndi (fun q : QT => MF m q.2.2) (MF.rf m) g)
theorem steps_mf {m : Nat → Nat → Int32} {W : Nat → Int32} {t : Nat} (h : KG W t) (ht : t < 4) : MF m (q_steps m W t).2.2 := by
  unfold q_steps
  have g := (MF.p m 5 (Int32.ofNat 0)).tr (does_mf (m := zm2 m 137 5 (Int32.ofNat 0)) (W := W) (t := t) (n := nv W (376 + 103 * t + (55 + 2 * nv W (376 + 103 * t + 0) + 1))) (Nat.lt_succ_of_le (h.deed ht).2.1.2.2))
  generalize q_does (zm2 m 137 5 (Int32.ofNat 0)) W t (nv W (376 + 103 * t + (55 + 2 * nv W (376 + 103 * t + 0)))) (nv W (376 + 103 * t + (55 + 2 * nv W (376 + 103 * t + 0) + 1))) = c at g ⊢
  exact cndi (fun q : QT => MF m q.2.2) g (g.tr stepsD_mf)
theorem goesT_mf {q : Nat} : ∀ (n k : Nat) (W : Nat → Int32) (m : Nat → Nat → Int32), WG W → LT W → MF m (l_goesT q n k W m).2.2 := by
  intro n
  induction n with
  | zero => intro k W m h hL; exact MF.rf m
  | succ n ih =>
    intro k W m h hL
    rw [l_goesT]
    refine cndh (fun q : QT => MF m q.2.2) (fun _ => MF.rf m) (fun hc => cndi (fun q : QT => MF m q.2.2) (MF.rf m) ?_)
    obtain ⟨-, n4, nk⟩ := next_n h hL hc
    have hs := steps_ok (m := m) nk n4
    exact (steps_mf nk n4).tr (ih _ _ _ hs.1 (LT_of hs.2 n4))
theorem WG_of {W V : Nat → Int32} (h : WG W) (e : ∀ k, k < 788 → V k = W k) : WG V :=
  ⟨h.1.of (fun j hj _ => e _ (by omega)) (WC_of (e _ (by omega)) h.C), fun t ht => (h.2 t ht).same (fun c hc _ => e _ (by omega))⟩
theorem LT_eq {W V : Nat → Int32} (h : LT W) (e : V 12 = W 12) : LT V := by
  unfold LT lt1 at *
  rw [e]; exact h
theorem goesT1_ok {W : Nat → Int32} {m : Nat → Nat → Int32} (h : WG W) (hL : LT W) : WG (q_goesT m W 1).2.1 ∧ LT (q_goesT m W 1).2.1 ∧ MF m (q_goesT m W 1).2.2 := ⟨(goesT_ok _ _ _ _ h hL).1, (goesT_ok _ _ _ _ h hL).2, goesT_mf _ _ _ _ h hL⟩
theorem dueOfX_ok : ∀ (n k : Nat) (W : Nat → Int32) (m : Nat → Nat → Int32), WG W → LT W → MF m (l_dueOfX n k W m).2.2 := by
  intro n
  induction n with
  | zero => intro k W m h hL; exact MF.rf m
  | succ n ih =>
    intro k W m h hL
    rw [l_dueOfX]
    have a := goesT1_ok (m := m) h hL
    generalize q_goesT m W 1 = c at a ⊢
    exact cndi (fun q : QT => MF m q.2.2) (cndi (fun q : QT => MF m q.2.2) (ih _ _ _ h hL) (cndi (fun q : QT => MF m q.2.2) (MF.rf m) (cndi (fun q : QT => MF m q.2.2) (a.2.2.tr (ih _ _ _ a.1 a.2.1)) a.2.2))) (MF.rf m)
theorem dueOf_ok {t : Nat} : ∀ (n k : Nat) (W : Nat → Int32) (m : Nat → Nat → Int32), WG W → LT W → MF m (l_dueOf t n k W m).2.2 := by
  intro n
  induction n with
  | zero => intro k W m h hL; exact MF.rf m
  | succ n ih =>
    intro k W m h hL
    rw [l_dueOf]
    have a := goesT1_ok (m := m) h hL
    generalize q_goesT m W 1 = c at a ⊢
    exact cndi (fun q : QT => MF m q.2.2) (cndi (fun q : QT => MF m q.2.2) (ih _ _ _ h hL) (cndi (fun q : QT => MF m q.2.2) (MF.rf m) (cndi (fun q : QT => MF m q.2.2) (a.2.2.tr (ih _ _ _ a.1 a.2.1)) a.2.2))) (MF.rf m)
/-- behind a look ahead the world is as it was -/
theorem crow_back {W V : Nat → Int32} {m m' : Nat → Nat → Int32} (h : MF (zrow m 140 (crow W (m 140))) m') : ∀ k, k < 788 → crow (m' 140) V k = W k := by
  intro k hk
  unfold crow
  rw [if_pos hk, h 140 (by decide), zrow_at]
  exact if_pos hk
theorem dueBy_ok {W : Nat → Int32} {m : Nat → Nat → Int32} {b : Nat} (h : WG W) (hL : LT W) : ∀ k, k < 788 → (q_dueBy m W b).2.1 k = W k := crow_back (dueOfX_ok _ _ _ _ (h.need _) (hL.put _ (by omega)))
noncomputable def l_quickest (x : Int32) : Nat → Int32 → Int32 → Nat → (Nat → Int32) → (Nat → Nat → Int32) → Int32 × (Nat → Int32) × (Nat → Nat → Int32)
  | 0, b, l, k, W, m => (bif zc1 .ne x then (l, W, m) else (b, W, m))
  | n + 1, b, l, k, W, m => (bif zc2 .eq (q_dueBy m W k).1 (-1) then (l_quickest x n b l ((k + 1)) ((q_dueBy m W k).2.1) ((q_dueBy m W k).2.2)) else (bif zc2 .eq l (-1) then (l_quickest x n ((Int32.ofNat k)) ((q_dueBy m W k).1) ((k + 1)) ((q_dueBy m W k).2.1) ((q_dueBy m W k).2.2)) else (bif zc2 .lt (q_dueBy m W k).1 l then (l_quickest x n ((Int32.ofNat k)) ((q_dueBy m W k).1) ((k + 1)) ((q_dueBy m W k).2.1) ((q_dueBy m W k).2.2)) else (l_quickest x n b l ((k + 1)) ((q_dueBy m W k).2.1) ((q_dueBy m W k).2.2)))))
theorem w_quickest {σ : Nat → Nat × (Nat → Int32)} {yy : (Nat → Nat → Int64) × Bool × Nat × Nat} {x : Int32} {d : Nat} (hd : 13 ≤ d + 1) : ∀ (n : Nat) (b : Int32) (l : Int32) (k : Nat) (x5 : Option Value) (W : Nat → Int32) (m : Nat → Nat → Int32), k + n = 17 → WG W → LT W → zEv σ (d + 1) 1892 36 [some (.ref 137), some (.int x), some (.int b), some (.int l), some (.int (Int32.ofNat k)), x5] [] (zS1, zrow m 138 W, yy) (.inl (some (.int (l_quickest x n b l k W m).1))) (zS1, zrow ((l_quickest x n b l k W m).2.2) 138 ((l_quickest x n b l k W m).2.1), yy) := by
  intro n
  induction n with
  | zero =>
    intro b l k x5 W m hk hw hL
    refine zeP rfl rfl ?_
    refine zeKn (c := 16) rfl rfl rfl ?_
    refine zeT2 rfl rfl (zcgt (by omega) (by omega) (by omega)) ?_
    refine zeP rfl rfl ?_
    refine zeB1 rfl rfl (fun h1 => ?_) (fun h1 => ?_)
    · refine zeP rfl rfl ?_
      exact zeRe rfl rfl rfl rfl (by simp only [l_quickest, h1, cond_true, cond_false] <;> rfl) (by simp only [l_quickest, h1, cond_true, cond_false] <;> rfl)
    · refine zeP rfl rfl ?_
      refine zeP rfl rfl ?_
      exact zeRe rfl rfl rfl rfl (by simp only [l_quickest, h1, cond_true, cond_false] <;> rfl) (by simp only [l_quickest, h1, cond_true, cond_false] <;> rfl)
  | succ n ih =>
    intro b l k x5 W m hk hw hL
    refine zeP rfl rfl ?_
    refine zeKn (c := 16) rfl rfl rfl ?_
    refine zeF2 rfl rfl (zcgt_f (by omega) (by omega) (by omega)) ?_
    refine zeP rfl rfl ?_
    refine zeP rfl rfl ?_
    refine zeCF rfl rfl rfl rfl rfl rfl (c_dueBy (m := m) (W := W) (b := k) hw hL) (by omega) ?_
    dsimp only [Option.toList, List.cons_append, List.nil_append]
    refine zeP rfl rfl ?_
    refine zeP rfl rfl ?_
    refine zeK (v := -1) rfl rfl rfl ?_
    refine zeB2 rfl rfl (fun h1 => ?_) (fun h1 => ?_)
    · refine zeInc rfl rfl ?_
      refine zeP rfl rfl ?_
      simp only [l_quickest, h1, cond_true, cond_false]
      exact ih (b) (l) ((k + 1)) (some (.int (q_dueBy m W k).1)) ((q_dueBy m W k).2.1) ((q_dueBy m W k).2.2) (by omega) (WG_of hw (dueBy_ok hw hL)) (LT_eq hL (dueBy_ok hw hL 12 (by omega)))
    · refine zeP rfl rfl ?_
      refine zeK (v := -1) rfl rfl rfl ?_
      refine zeB2 rfl rfl (fun h2 => ?_) (fun h2 => ?_)
      · refine zeP rfl rfl ?_
        refine zeP rfl rfl ?_
        refine zeP rfl rfl ?_
        refine zeP rfl rfl ?_
        refine zeInc rfl rfl ?_
        refine zeP rfl rfl ?_
        simp only [l_quickest, h1, h2, cond_true, cond_false]
        exact ih ((Int32.ofNat k)) ((q_dueBy m W k).1) ((k + 1)) (some (.int (q_dueBy m W k).1)) ((q_dueBy m W k).2.1) ((q_dueBy m W k).2.2) (by omega) (WG_of hw (dueBy_ok hw hL)) (LT_eq hL (dueBy_ok hw hL 12 (by omega)))
      · refine zeP rfl rfl ?_
        refine zeP rfl rfl ?_
        refine zeB2 rfl rfl (fun h3 => ?_) (fun h3 => ?_)
        · refine zeP rfl rfl ?_
          refine zeP rfl rfl ?_
          refine zeP rfl rfl ?_
          refine zeP rfl rfl ?_
          refine zeInc rfl rfl ?_
          refine zeP rfl rfl ?_
          simp only [l_quickest, h1, h2, h3, cond_true, cond_false]
          exact ih ((Int32.ofNat k)) ((q_dueBy m W k).1) ((k + 1)) (some (.int (q_dueBy m W k).1)) ((q_dueBy m W k).2.1) ((q_dueBy m W k).2.2) (by omega) (WG_of hw (dueBy_ok hw hL)) (LT_eq hL (dueBy_ok hw hL 12 (by omega)))
        · refine zeP rfl rfl ?_
          refine zeInc rfl rfl ?_
          refine zeP rfl rfl ?_
          simp only [l_quickest, h1, h2, h3, cond_true, cond_false]
          exact ih (b) (l) ((k + 1)) (some (.int (q_dueBy m W k).1)) ((q_dueBy m W k).2.1) ((q_dueBy m W k).2.2) (by omega) (WG_of hw (dueBy_ok hw hL)) (LT_eq hL (dueBy_ok hw hL 12 (by omega)))
noncomputable def q_quickest (m : Nat → Nat → Int32) (W : Nat → Int32) (x : Int32) : Int32 × (Nat → Int32) × (Nat → Nat → Int32) := (bif zc1 .ne (q_in x ((Int32.ofNat 0)) ((Int32.ofNat 1))) then (l_quickest x 17 ((-1)) ((-1)) 0 W ((zm2 m 137 0 (Int32.ofNat 0)))) else ((Int32.ofNat 0), W, (q_thr1 ((zm2 m 137 0 (Int32.ofNat 0))) 1).2))
theorem p_quickest {σ : Nat → Nat × (Nat → Int32)} {yy : (Nat → Nat → Int64) × Bool × Nat × Nat} {m : Nat → Nat → Int32} {W : Nat → Int32} {x : Int32} {d : Nat} (hd : 13 ≤ d + 1) (hw : WG W) (hL : LT W) : zEv σ (d + 1) 1892 0 [some (.ref 137), some (.int x), none, none, none, none] [] (zS1, zrow m 138 W, yy) (.inl (some (.int (q_quickest m W x).1))) (zS1, zrow ((q_quickest m W x).2.2) 138 ((q_quickest m W x).2.1), yy) := by
  refine zeP rfl rfl ?_
  refine zeKn (c := 0) rfl rfl rfl ?_
  refine zeFP rfl rfl rfl ?_
  refine zeP rfl rfl ?_
  refine zeP rfl rfl ?_
  refine zeKn (c := 0) rfl rfl rfl ?_
  refine zeKn (c := 1) rfl rfl rfl ?_
  refine zeCF rfl rfl rfl rfl rfl rfl (c_in (m := (zm2 m 137 0 (Int32.ofNat 0))) (W := W) (v := x) (lo := (Int32.ofNat 0)) (hi := (Int32.ofNat 1)) ) (by omega) ?_
  dsimp only [Option.toList, List.cons_append, List.nil_append]
  refine zeB1 rfl rfl (fun h1 => ?_) (fun h1 => ?_)
  · refine zeKn (c := 0) rfl rfl rfl ?_
    refine zeKn (c := 1) rfl rfl rfl ?_
    refine zeCF rfl rfl rfl rfl rfl rfl (c_thr0 (m := (zm2 m 137 0 (Int32.ofNat 0))) (W := W) (c := 1) ) (by omega) ?_
    dsimp only [Option.toList, List.cons_append, List.nil_append]
    refine zeT1 rfl rfl (show zc1 .eq (Int32.ofNat 0) = true by decide) ?_
    refine zeK (v := -1) rfl rfl rfl ?_
    refine zeP rfl rfl ?_
    refine zeK (v := -1) rfl rfl rfl ?_
    refine zeP rfl rfl ?_
    refine zeKn (c := 0) rfl rfl rfl ?_
    refine zeP rfl rfl ?_
    simp only [q_quickest, h1, cond_true, cond_false]
    exact w_quickest (x := x) (by omega)  17 ((-1)) ((-1)) (0) (none) W ((zm2 m 137 0 (Int32.ofNat 0))) (by omega) hw hL
  · refine zeKn (c := 1) rfl rfl rfl ?_
    refine zeP rfl rfl ?_
    refine zeKn (c := 1) rfl rfl rfl ?_
    refine zeCF rfl rfl rfl rfl rfl rfl (c_thr1 (m := (zm2 m 137 0 (Int32.ofNat 0))) (W := W) (c := 1) ) (by omega) ?_
    dsimp only [Option.toList, List.cons_append, List.nil_append]
    refine zeF1 rfl rfl (show zc1 .eq (Int32.ofNat 1) = false by decide) ?_
    refine zeKn (c := 0) rfl rfl rfl ?_
    exact zeRe rfl rfl rfl rfl (by simp only [q_quickest, h1, cond_true, cond_false] <;> rfl) (by simp only [q_quickest, h1, cond_true, cond_false] <;> rfl)
theorem c_quickest {σ : Nat → Nat × (Nat → Int32)} {yy : (Nat → Nat → Int64) × Bool × Nat × Nat} {m : Nat → Nat → Int32} {W : Nat → Int32} {x : Int32} (hw : WG W) (hL : LT W) : zF σ 13 1892 [.ref 137, .int x] (zS1, zrow m 138 W, yy) (.inl (some (.int (q_quickest m W x).1))) (zS1, zrow ((q_quickest m W x).2.2) 138 ((q_quickest m W x).2.1), yy) := by
  intro d hd
  obtain ⟨d, rfl⟩ : ∃ k, d = k + 1 := ⟨d - 1, by omega⟩
  exact p_quickest hd hw hL
end
section
theorem zret_none {j : Nat} {i : Instr} {w : List Value} (h1 : i ≠ .ireturn) (h2 : i ≠ .areturn) (h3 : i ≠ .return_) : zret j i w = none := by
  unfold zret
  cases zent j with
  | none => rfl
  | some q =>
    cases i
    case ireturn => exact absurd rfl h1
    case areturn => exact absurd rfl h2
    case return_ => exact absurd rfl h3
    all_goals rfl
/-! the class's machines: what lies where (base b, thread t, lock l) -/
noncomputable def BB (b : Nat) : Prop := b = 1 ∨ b = 43 ∨ b = 85
theorem BB.all {P : Nat → Prop} (h1 : P 1) (h2 : P 43) (h3 : P 85) {b : Nat} (hb : BB b) : P b := by
  rcases hb with rfl | rfl | rfl
  · exact h1
  · exact h2
  · exact h3
theorem shM {b : Nat} (hb : BB b) : zS1[b]? = some (3, 0, [b + 2, b + 3, b + 4, b + 5, b + 10, 0, 0, 0, 0, 0, b + 39, b + 40, 0, b + 41]) := BB.all (P := fun b => zS1[b]? = some (3, 0, [b + 2, b + 3, b + 4, b + 5, b + 10, 0, 0, 0, 0, 0, b + 39, b + 40, 0, b + 41])) (by decide +kernel) (by decide +kernel) (by decide +kernel) hb
theorem shW {b : Nat} (hb : BB b) : zS1[b + 1]? = some (10, 32, []) := BB.all (P := fun b => zS1[b + 1]? = some (10, 32, [])) rfl rfl rfl hb
theorem shT {b : Nat} (hb : BB b) : zS1[b + 2]? = some (10, 32, []) := BB.all (P := fun b => zS1[b + 2]? = some (10, 32, [])) rfl rfl rfl hb
theorem shE {b : Nat} (hb : BB b) : zS1[b + 3]? = some (10, 9, []) := BB.all (P := fun b => zS1[b + 3]? = some (10, 9, [])) rfl rfl rfl hb
theorem shLA {b : Nat} (hb : BB b) : zS1[b + 4]? = some (12, 4, [b + 6, b + 7, b + 8, b + 9]) := BB.all (P := fun b => zS1[b + 4]? = some (12, 4, [b + 6, b + 7, b + 8, b + 9])) rfl rfl rfl hb
theorem shSA {b : Nat} (hb : BB b) : zS1[b + 9]? = some (13, 4, [b + 11, b + 18, b + 25, b + 32]) := BB.all (P := fun b => zS1[b + 9]? = some (13, 4, [b + 11, b + 18, b + 25, b + 32])) rfl rfl rfl hb
theorem shOT {b : Nat} (hb : BB b) : zS1[b + 38]? = some (10, 20, []) := BB.all (P := fun b => zS1[b + 38]? = some (10, 20, [])) rfl rfl rfl hb
theorem shOS {b : Nat} (hb : BB b) : zS1[b + 39]? = some (10, 20, []) := BB.all (P := fun b => zS1[b + 39]? = some (10, 20, [])) rfl rfl rfl hb
theorem shLG {b : Nat} (hb : BB b) : zS1[b + 40]? = some (2, 0, [b + 42, 0, 0]) := BB.all (P := fun b => zS1[b + 40]? = some (2, 0, [b + 42, 0, 0])) rfl rfl rfl hb
theorem shC {b : Nat} (hb : BB b) : zS1[b + 41]? = some (10, 240, []) := BB.all (P := fun b => zS1[b + 41]? = some (10, 240, [])) rfl rfl rfl hb
theorem lt4 {P : Nat → Prop} (h0 : P 0) (h1 : P 1) (h2 : P 2) (h3 : P 3) {t : Nat} (ht : t < 4) : P t := by
  match t, ht with
  | 0, _ => exact h0
  | 1, _ => exact h1
  | 2, _ => exact h2
  | 3, _ => exact h3
theorem shL {b l : Nat} (hb : BB b) (hl : l < 4) : zS1[b + 5 + l]? = some (1, 0, [0, 0, 0, 0]) := BB.all (P := fun b => zS1[b + 5 + l]? = some (1, 0, [0, 0, 0, 0])) (lt4 (P := fun l => zS1[1 + 5 + l]? = some (1, 0, [0, 0, 0, 0])) rfl rfl rfl rfl hl) (lt4 (P := fun l => zS1[43 + 5 + l]? = some (1, 0, [0, 0, 0, 0])) rfl rfl rfl rfl hl) (lt4 (P := fun l => zS1[85 + 5 + l]? = some (1, 0, [0, 0, 0, 0])) rfl rfl rfl rfl hl) hb
theorem bbt {P : Nat → Nat → Prop} (h1 : ∀ t, t < 4 → P 1 t) (h2 : ∀ t, t < 4 → P 43 t) (h3 : ∀ t, t < 4 → P 85 t) {b t : Nat} (hb : BB b) (ht : t < 4) : P b t := BB.all (P := fun b => P b t) (h1 t ht) (h2 t ht) (h3 t ht) hb
theorem shS {b t : Nat} (hb : BB b) (ht : t < 4) : zS1[b + 10 + 7 * t]? = some (6, 0, [b + 11 + 7 * t + 1, b + 12 + 7 * t + 1, 0, 0, 0, 0, 0, 0, b + 13 + 7 * t + 1, b + 14 + 7 * t + 1]) := bbt (P := fun b t => zS1[b + 10 + 7 * t]? = some (6, 0, [b + 11 + 7 * t + 1, b + 12 + 7 * t + 1, 0, 0, 0, 0, 0, 0, b + 13 + 7 * t + 1, b + 14 + 7 * t + 1])) (by decide +kernel) (by decide +kernel) (by decide +kernel) hb ht
theorem shK {b t : Nat} (hb : BB b) (ht : t < 4) : zS1[b + 11 + 7 * t]? = some (10, 24, []) := bbt (P := fun b t => zS1[b + 11 + 7 * t]? = some (10, 24, [])) (by decide +kernel) (by decide +kernel) (by decide +kernel) hb ht
theorem shN {b t : Nat} (hb : BB b) (ht : t < 4) : zS1[b + 12 + 7 * t]? = some (10, 24, []) := bbt (P := fun b t => zS1[b + 12 + 7 * t]? = some (10, 24, [])) (by decide +kernel) (by decide +kernel) (by decide +kernel) hb ht
theorem shF {b t : Nat} (hb : BB b) (ht : t < 4) : zS1[b + 13 + 7 * t]? = some (10, 5, []) := bbt (P := fun b t => zS1[b + 13 + 7 * t]? = some (10, 5, [])) (by decide +kernel) (by decide +kernel) (by decide +kernel) hb ht
theorem shG {b t : Nat} (hb : BB b) (ht : t < 4) : zS1[b + 14 + 7 * t]? = some (0, 0, [0, 0, 0, 0, b + 15 + 7 * t + 1, 0, 0, 0, b + 16 + 7 * t + 1, 0]) := bbt (P := fun b t => zS1[b + 14 + 7 * t]? = some (0, 0, [0, 0, 0, 0, b + 15 + 7 * t + 1, 0, 0, 0, b + 16 + 7 * t + 1, 0])) (by decide +kernel) (by decide +kernel) (by decide +kernel) hb ht
theorem shO {b t : Nat} (hb : BB b) (ht : t < 4) : zS1[b + 15 + 7 * t]? = some (10, 4, []) := bbt (P := fun b t => zS1[b + 15 + 7 * t]? = some (10, 4, [])) (by decide +kernel) (by decide +kernel) (by decide +kernel) hb ht
theorem shV {b t : Nat} (hb : BB b) (ht : t < 4) : zS1[b + 16 + 7 * t]? = some (10, 32, []) := bbt (P := fun b t => zS1[b + 16 + 7 * t]? = some (10, 32, [])) (by decide +kernel) (by decide +kernel) (by decide +kernel) hb ht
theorem rvL {b l : Nat} (hl : l < 4) : zrv [b + 6, b + 7, b + 8, b + 9] l = some (b + 5 + l) := lt4 (P := fun l => zrv [b + 6, b + 7, b + 8, b + 9] l = some (b + 5 + l)) rfl rfl rfl rfl hl
theorem rvS {b t : Nat} (ht : t < 4) : zrv [b + 11, b + 18, b + 25, b + 32] t = some (b + 10 + 7 * t) := lt4 (P := fun t => zrv [b + 11, b + 18, b + 25, b + 32] t = some (b + 10 + 7 * t)) rfl rfl rfl rfl ht
theorem rv0 {x y : Nat} {l : List Nat} (h : x = y + 1) : zrv (x :: l) 0 = some y := by subst h; rfl
theorem bb1000 {b k : Nat} (hb : BB b) (hk : k ≤ 60) : Nat.blt (b + k) 1000 = true := by
  apply Nat.ble_eq_true_of_le
  rcases hb with rfl | rfl | rfl <;> omega
theorem zand3 {t : Nat} (ht : t < 4) : Int32.ofNat t &&& Int32.ofNat 3 = Int32.ofNat t := lt4 (P := fun t => Int32.ofNat t &&& Int32.ofNat 3 = Int32.ofNat t) (by decide) (by decide) (by decide) (by decide) ht
section ZRL
variable {σ : Nat → Nat × (Nat → Int32)} {d j pc : Nat} {lv : zLv} {r : List Value} {m : Nat → Nat → Int32} {y : (Nat → Nat → Int64) × Bool × Nat × Nat} {o : zO} {M' : zMem}
theorem zeRL {S : List (Nat × Nat × List Nat)} {a n k c kd : Nat} {rs : List Nat} (hf : zfe j pc = some (.aaload, 1)) (hS : S[a]? = some (kd, n, rs)) (hkd : (kd == 12 || kd == 13) = true) (hn : Nat.ble n 2000 = true) (hk : k < n) (hc : zrv rs k = some c) (kk : zEv σ d j (pc + 1) lv (.ref c :: r) (S, m, y) o M') : zEv σ d j pc lv (.int (Int32.ofNat k) :: .ref a :: r) (S, m, y) o M' := by
  refine zeS hf rfl ?_ kk
  simp only [zS, zaald, hS, hkd, zinB hk (Nat.le_of_ble_eq_true hn), zcl hk (Nat.le_of_ble_eq_true hn), Bool.not_false, Bool.and_self, cond_true, hc]
end ZRL
theorem zeON {σ : Nat → Nat × (Nat → Int32)} {d j pc : Nat} {lv : zLv} {r st : List Value} {M : zMem} {o : zO} {M' : zMem} {i : Instr} {len pc' c : Nat} {w : Int32} (hf : zfe j pc = some (i, len)) (hp : zP (j / 200) i pc lv st = some (pc', lv, .int w :: r)) (hv : w = Int32.ofNat c) (k : zEv σ d j pc' lv (.int (Int32.ofNat c) :: r) M o M') : zEv σ d j pc lv st M o M' := by
  subst hv
  exact zeP hf hp k
theorem zeCV {σ : Nat → Nat × (Nat → Int32)} {d j pc : Nat} {lv : zLv} {st : List Value} {S : List (Nat × Nat × List Nat)} {m : Nat → Nat → Int32} {y : (Nat → Nat → Int64) × Bool × Nat × Nat} {o : zO} {M' : zMem} {idx len j' a kd n h pl : Nat} {as rest : List Value} {rs : List Nat} {v : Option Value} {M1 : zMem} (hf : zfe j pc = some (.invokevirtual idx, len)) (hl : (zmp (j / 200)).lookup idx = some (0, j', pl)) (ht : zthr j pc = none) (hsp : zsp j' (zna j' + 1) st = some (j', .ref a :: as, rest)) (hS : S[a]? = some (kd, n, rs)) (hkd : (kd == j' / 200) = true) (h1 : zF σ h j' (.ref a :: as) (S, m, y) (.inl v) M1) (hh : h ≤ d) (k : zEv σ (d + 1) j (pc + 3) lv (v.toList ++ rest) M1 o M') : zEv σ (d + 1) j pc lv st (S, m, y) o M' := by
  refine zeCF hf rfl rfl (zret_none (by intro e; cases e) (by intro e; cases e) (by intro e; cases e)) ht ?_ h1 hh k
  simp only [zcall, hl, hsp, hS, hkd, cond_true]
end
section
theorem bbl {b k t : Nat} (hb : BB b) (ht : t < 4) (hk : k ≤ 60) : Nat.blt (b + k + 7 * t) 1000 = true := by
  apply Nat.ble_eq_true_of_le
  rcases hb with rfl | rfl | rfl <;> omega
theorem xp_strandAt {σ : Nat → Nat × (Nat → Int32)} {yy : (Nat → Nat → Int64) × Bool × Nat × Nat} {m : Nat → Nat → Int32} {b : Nat} {t : Nat} {d : Nat} (hd : 1 ≤ d + 1) (hb : BB b) (ht : t < 4) : zEv σ (d + 1) 602 0 [some (.ref b), some (.int (Int32.ofNat t))] [] (zS1, m, yy) (.inl (some (.ref (b + 10 + 7 * t)))) (zS1, m, yy) := by
  refine zeP rfl rfl ?_
  refine zeGR rfl rfl (shM hb) rfl rfl ?_
  refine zeP rfl rfl ?_
  refine zeKn (c := 3) rfl rfl rfl ?_
  refine zeON (c := t) rfl rfl (zand3 (by omega)) ?_
  refine zeRL (k := t) rfl (shSA hb) rfl rfl (by omega) (rvS (by omega)) ?_
  exact zeRe rfl rfl rfl rfl (by rfl) (by rfl)
theorem xc_strandAt {σ : Nat → Nat × (Nat → Int32)} {yy : (Nat → Nat → Int64) × Bool × Nat × Nat} {m : Nat → Nat → Int32} {b : Nat} {t : Nat} (hb : BB b) (ht : t < 4) : zF σ 1 602 [.ref b, .int (Int32.ofNat t)] (zS1, m, yy) (.inl (some (.ref (b + 10 + 7 * t)))) (zS1, m, yy) := by
  intro d hd
  obtain ⟨d, rfl⟩ : ∃ k, d = k + 1 := ⟨d - 1, by omega⟩
  exact xp_strandAt hd hb ht
theorem xp_lockAt {σ : Nat → Nat × (Nat → Int32)} {yy : (Nat → Nat → Int64) × Bool × Nat × Nat} {m : Nat → Nat → Int32} {b : Nat} {l : Nat} {d : Nat} (hd : 1 ≤ d + 1) (hb : BB b) (hl : l < 4) : zEv σ (d + 1) 603 0 [some (.ref b), some (.int (Int32.ofNat l))] [] (zS1, m, yy) (.inl (some (.ref (b + 5 + l)))) (zS1, m, yy) := by
  refine zeP rfl rfl ?_
  refine zeGR rfl rfl (shM hb) rfl rfl ?_
  refine zeP rfl rfl ?_
  refine zeKn (c := 3) rfl rfl rfl ?_
  refine zeON (c := l) rfl rfl (zand3 (by omega)) ?_
  refine zeRL (k := l) rfl (shLA hb) rfl rfl (by omega) (rvL (by omega)) ?_
  exact zeRe rfl rfl rfl rfl (by rfl) (by rfl)
theorem xc_lockAt {σ : Nat → Nat × (Nat → Int32)} {yy : (Nat → Nat → Int64) × Bool × Nat × Nat} {m : Nat → Nat → Int32} {b : Nat} {l : Nat} (hb : BB b) (hl : l < 4) : zF σ 1 603 [.ref b, .int (Int32.ofNat l)] (zS1, m, yy) (.inl (some (.ref (b + 5 + l)))) (zS1, m, yy) := by
  intro d hd
  obtain ⟨d, rfl⟩ : ∃ k, d = k + 1 := ⟨d - 1, by omega⟩
  exact xp_lockAt hd hb hl
noncomputable def x_sDone (m : Nat → Nat → Int32) (b : Nat) (t : Nat) : Int32 := (bif zc2 .lt (m ((b + 10 + 7 * t)) 3) (m ((b + 10 + 7 * t)) 2) then (Int32.ofNat 0) else (Int32.ofNat 1))
theorem xp_sDone {σ : Nat → Nat × (Nat → Int32)} {yy : (Nat → Nat → Int64) × Bool × Nat × Nat} {m : Nat → Nat → Int32} {b : Nat} {t : Nat} {d : Nat} (hd : 1 ≤ d + 1) (hb : BB b) (ht : t < 4) : zEv σ (d + 1) 1206 0 [some (.ref (b + 10 + 7 * t))] [] (zS1, m, yy) (.inl (some (.int (x_sDone m b t)))) (zS1, m, yy) := by
  refine zeP rfl rfl ?_
  refine zeGI rfl rfl (shS hb (by omega)) rfl rfl ?_
  refine zeP rfl rfl ?_
  refine zeGI rfl rfl (shS hb (by omega)) rfl rfl ?_
  refine zeB2 rfl rfl (fun h1 => ?_) (fun h1 => ?_)
  · refine zeKn (c := 0) rfl rfl rfl ?_
    exact zeRe rfl rfl rfl rfl (by simp only [x_sDone, h1, cond_true, cond_false] <;> rfl) (by simp only [x_sDone, h1, cond_true, cond_false] <;> rfl)
  · refine zeKn (c := 1) rfl rfl rfl ?_
    refine zeP rfl rfl ?_
    exact zeRe rfl rfl rfl rfl (by simp only [x_sDone, h1, cond_true, cond_false] <;> rfl) (by simp only [x_sDone, h1, cond_true, cond_false] <;> rfl)
theorem xc_sDone {σ : Nat → Nat × (Nat → Int32)} {yy : (Nat → Nat → Int64) × Bool × Nat × Nat} {m : Nat → Nat → Int32} {b : Nat} {t : Nat} (hb : BB b) (ht : t < 4) : zF σ 1 1206 [.ref (b + 10 + 7 * t)] (zS1, m, yy) (.inl (some (.int (x_sDone m b t)))) (zS1, m, yy) := by
  intro d hd
  obtain ⟨d, rfl⟩ : ∃ k, d = k + 1 := ⟨d - 1, by omega⟩
  exact xp_sDone hd hb ht
noncomputable def x_close (m : Nat → Nat → Int32) (b : Nat) (t : Nat) : (Nat → Nat → Int32) := (zm2 ((zm2 ((zm2 ((zm2 ((zm2 m ((b + 14 + 7 * t)) 0 (Int32.ofNat 0))) ((b + 14 + 7 * t)) 5 (Int32.ofNat 0))) ((b + 14 + 7 * t)) 6 (Int32.ofNat 0))) ((b + 14 + 7 * t)) 7 (Int32.ofNat 0))) ((b + 14 + 7 * t)) 9 (Int32.ofNat 0))
theorem xp_close {σ : Nat → Nat × (Nat → Int32)} {yy : (Nat → Nat → Int64) × Bool × Nat × Nat} {m : Nat → Nat → Int32} {b : Nat} {t : Nat} {d : Nat} (hd : 1 ≤ d + 1) (hb : BB b) (ht : t < 4) : zEv σ (d + 1) 3 0 [some (.ref (b + 14 + 7 * t))] [] (zS1, m, yy) (.inl none) (zS1, ((x_close m b t)), yy) := by
  refine zeP rfl rfl ?_
  refine zeKn (c := 0) rfl rfl rfl ?_
  refine zePB rfl rfl (shG hb (by omega)) rfl (by decide) ?_
  refine zeP rfl rfl ?_
  refine zeKn (c := 0) rfl rfl rfl ?_
  refine zePI rfl rfl (shG hb (by omega)) rfl ?_
  refine zeP rfl rfl ?_
  refine zeKn (c := 0) rfl rfl rfl ?_
  refine zePI rfl rfl (shG hb (by omega)) rfl ?_
  refine zeP rfl rfl ?_
  refine zeKn (c := 0) rfl rfl rfl ?_
  refine zePI rfl rfl (shG hb (by omega)) rfl ?_
  refine zeP rfl rfl ?_
  refine zeKn (c := 0) rfl rfl rfl ?_
  refine zePI rfl rfl (shG hb (by omega)) rfl ?_
  exact zeRe rfl rfl rfl rfl (by rfl) (by rfl)
theorem xc_close {σ : Nat → Nat × (Nat → Int32)} {yy : (Nat → Nat → Int64) × Bool × Nat × Nat} {m : Nat → Nat → Int32} {b : Nat} {t : Nat} (hb : BB b) (ht : t < 4) : zF σ 1 3 [.ref (b + 14 + 7 * t)] (zS1, m, yy) (.inl none) (zS1, ((x_close m b t)), yy) := by
  intro d hd
  obtain ⟨d, rfl⟩ : ∃ k, d = k + 1 := ⟨d - 1, by omega⟩
  exact xp_close hd hb ht
noncomputable def x_begin (m : Nat → Nat → Int32) (b : Nat) (t : Nat) (x : Int32) (y : Int32) (z : Int32) : (Nat → Nat → Int32) := (zm2 ((zm2 ((zm2 ((zm2 m ((b + 14 + 7 * t)) 0 (Int32.ofNat 1))) ((b + 14 + 7 * t)) 1 x)) ((b + 14 + 7 * t)) 2 y)) ((b + 14 + 7 * t)) 3 z)
theorem xp_begin {σ : Nat → Nat × (Nat → Int32)} {yy : (Nat → Nat → Int64) × Bool × Nat × Nat} {m : Nat → Nat → Int32} {b : Nat} {t : Nat} {x : Int32} {y : Int32} {z : Int32} {d : Nat} (hd : 1 ≤ d + 1) (hb : BB b) (ht : t < 4) : zEv σ (d + 1) 2 0 [some (.ref (b + 14 + 7 * t)), some (.int x), some (.int y), some (.int z)] [] (zS1, m, yy) (.inl none) (zS1, ((x_begin m b t x y z)), yy) := by
  refine zeP rfl rfl ?_
  refine zeKn (c := 1) rfl rfl rfl ?_
  refine zePB rfl rfl (shG hb (by omega)) rfl (by decide) ?_
  refine zeP rfl rfl ?_
  refine zeP rfl rfl ?_
  refine zePI rfl rfl (shG hb (by omega)) rfl ?_
  refine zeP rfl rfl ?_
  refine zeP rfl rfl ?_
  refine zePI rfl rfl (shG hb (by omega)) rfl ?_
  refine zeP rfl rfl ?_
  refine zeP rfl rfl ?_
  refine zePI rfl rfl (shG hb (by omega)) rfl ?_
  exact zeRe rfl rfl rfl rfl (by rfl) (by rfl)
theorem xc_begin {σ : Nat → Nat × (Nat → Int32)} {yy : (Nat → Nat → Int64) × Bool × Nat × Nat} {m : Nat → Nat → Int32} {b : Nat} {t : Nat} {x : Int32} {y : Int32} {z : Int32} (hb : BB b) (ht : t < 4) : zF σ 1 2 [.ref (b + 14 + 7 * t), .int x, .int y, .int z] (zS1, m, yy) (.inl none) (zS1, ((x_begin m b t x y z)), yy) := by
  intro d hd
  obtain ⟨d, rfl⟩ : ∃ k, d = k + 1 := ⟨d - 1, by omega⟩
  exact xp_begin hd hb ht
noncomputable def x_hasValue (m : Nat → Nat → Int32) (b : Nat) (t : Nat) (w : Int32) : Int32 := (bif zc1 .eq ((((m ((b + 14 + 7 * t)) 9)).toUInt32 >>> (w.toUInt32 &&& Int32.toUInt32 31)).toInt32 &&& (Int32.ofNat 1)) then (Int32.ofNat 0) else (Int32.ofNat 1))
theorem xp_hasValue {σ : Nat → Nat × (Nat → Int32)} {yy : (Nat → Nat → Int64) × Bool × Nat × Nat} {m : Nat → Nat → Int32} {b : Nat} {t : Nat} {w : Int32} {d : Nat} (hd : 1 ≤ d + 1) (hb : BB b) (ht : t < 4) : zEv σ (d + 1) 8 0 [some (.ref (b + 14 + 7 * t)), some (.int w)] [] (zS1, m, yy) (.inl (some (.int (x_hasValue m b t w)))) (zS1, m, yy) := by
  refine zeP rfl rfl ?_
  refine zeGI rfl rfl (shG hb (by omega)) rfl rfl ?_
  refine zeP rfl rfl ?_
  refine zeP rfl rfl ?_
  refine zeKn (c := 1) rfl rfl rfl ?_
  refine zeP rfl rfl ?_
  refine zeB1 rfl rfl (fun h1 => ?_) (fun h1 => ?_)
  · refine zeKn (c := 0) rfl rfl rfl ?_
    exact zeRe rfl rfl rfl rfl (by simp only [x_hasValue, h1, cond_true, cond_false] <;> rfl) (by simp only [x_hasValue, h1, cond_true, cond_false] <;> rfl)
  · refine zeKn (c := 1) rfl rfl rfl ?_
    refine zeP rfl rfl ?_
    exact zeRe rfl rfl rfl rfl (by simp only [x_hasValue, h1, cond_true, cond_false] <;> rfl) (by simp only [x_hasValue, h1, cond_true, cond_false] <;> rfl)
theorem xc_hasValue {σ : Nat → Nat × (Nat → Int32)} {yy : (Nat → Nat → Int64) × Bool × Nat × Nat} {m : Nat → Nat → Int32} {b : Nat} {t : Nat} {w : Int32} (hb : BB b) (ht : t < 4) : zF σ 1 8 [.ref (b + 14 + 7 * t), .int w] (zS1, m, yy) (.inl (some (.int (x_hasValue m b t w)))) (zS1, m, yy) := by
  intro d hd
  obtain ⟨d, rfl⟩ : ∃ k, d = k + 1 := ⟨d - 1, by omega⟩
  exact xp_hasValue hd hb ht
noncomputable def x_gain (m : Nat → Nat → Int32) (b : Nat) (l : Nat) (x : Int32) : (Nat → Nat → Int32) := (bif zc2 .ge ((m ((b + 5 + l)) 1) + x) (Int32.ofNat 15) then (zm2 m ((b + 5 + l)) 1 (Int32.ofNat 15)) else (zm2 m ((b + 5 + l)) 1 ((m ((b + 5 + l)) 1) + x)))
theorem xp_gain {σ : Nat → Nat × (Nat → Int32)} {yy : (Nat → Nat → Int64) × Bool × Nat × Nat} {m : Nat → Nat → Int32} {b : Nat} {l : Nat} {x : Int32} {d : Nat} (hd : 1 ≤ d + 1) (hb : BB b) (hl : l < 4) : zEv σ (d + 1) 202 0 [some (.ref (b + 5 + l)), some (.int x)] [] (zS1, m, yy) (.inl none) (zS1, ((x_gain m b l x)), yy) := by
  refine zeP rfl rfl ?_
  refine zeP rfl rfl ?_
  refine zeGI rfl rfl (shL hb (by omega)) rfl rfl ?_
  refine zeP rfl rfl ?_
  refine zeP rfl rfl ?_
  refine zeKn (c := 15) rfl rfl rfl ?_
  refine zeB2 rfl rfl (fun h1 => ?_) (fun h1 => ?_)
  · refine zeKn (c := 15) rfl rfl rfl ?_
    refine zePI rfl rfl (shL hb (by omega)) rfl ?_
    exact zeRe rfl rfl rfl rfl (by simp only [x_gain, h1, cond_true, cond_false] <;> rfl) (by simp only [x_gain, h1, cond_true, cond_false] <;> rfl)
  · refine zeP rfl rfl ?_
    refine zeGI rfl rfl (shL hb (by omega)) rfl rfl ?_
    refine zeP rfl rfl ?_
    refine zeP rfl rfl ?_
    refine zeP rfl rfl ?_
    refine zePI rfl rfl (shL hb (by omega)) rfl ?_
    exact zeRe rfl rfl rfl rfl (by simp only [x_gain, h1, cond_true, cond_false] <;> rfl) (by simp only [x_gain, h1, cond_true, cond_false] <;> rfl)
theorem xc_gain {σ : Nat → Nat × (Nat → Int32)} {yy : (Nat → Nat → Int64) × Bool × Nat × Nat} {m : Nat → Nat → Int32} {b : Nat} {l : Nat} {x : Int32} (hb : BB b) (hl : l < 4) : zF σ 1 202 [.ref (b + 5 + l), .int x] (zS1, m, yy) (.inl none) (zS1, ((x_gain m b l x)), yy) := by
  intro d hd
  obtain ⟨d, rfl⟩ : ∃ k, d = k + 1 := ⟨d - 1, by omega⟩
  exact xp_gain hd hb hl
noncomputable def x_lose (m : Nat → Nat → Int32) (b : Nat) (l : Nat) (x : Int32) : (Nat → Nat → Int32) := (bif zc2 .le (m ((b + 5 + l)) 1) x then (zm2 m ((b + 5 + l)) 1 (Int32.ofNat 0)) else (zm2 m ((b + 5 + l)) 1 ((m ((b + 5 + l)) 1) - x)))
theorem xp_lose {σ : Nat → Nat × (Nat → Int32)} {yy : (Nat → Nat → Int64) × Bool × Nat × Nat} {m : Nat → Nat → Int32} {b : Nat} {l : Nat} {x : Int32} {d : Nat} (hd : 1 ≤ d + 1) (hb : BB b) (hl : l < 4) : zEv σ (d + 1) 203 0 [some (.ref (b + 5 + l)), some (.int x)] [] (zS1, m, yy) (.inl none) (zS1, ((x_lose m b l x)), yy) := by
  refine zeP rfl rfl ?_
  refine zeP rfl rfl ?_
  refine zeGI rfl rfl (shL hb (by omega)) rfl rfl ?_
  refine zeP rfl rfl ?_
  refine zeB2 rfl rfl (fun h1 => ?_) (fun h1 => ?_)
  · refine zeKn (c := 0) rfl rfl rfl ?_
    refine zePI rfl rfl (shL hb (by omega)) rfl ?_
    exact zeRe rfl rfl rfl rfl (by simp only [x_lose, h1, cond_true, cond_false] <;> rfl) (by simp only [x_lose, h1, cond_true, cond_false] <;> rfl)
  · refine zeP rfl rfl ?_
    refine zeGI rfl rfl (shL hb (by omega)) rfl rfl ?_
    refine zeP rfl rfl ?_
    refine zeP rfl rfl ?_
    refine zeP rfl rfl ?_
    refine zePI rfl rfl (shL hb (by omega)) rfl ?_
    exact zeRe rfl rfl rfl rfl (by simp only [x_lose, h1, cond_true, cond_false] <;> rfl) (by simp only [x_lose, h1, cond_true, cond_false] <;> rfl)
theorem xc_lose {σ : Nat → Nat × (Nat → Int32)} {yy : (Nat → Nat → Int64) × Bool × Nat × Nat} {m : Nat → Nat → Int32} {b : Nat} {l : Nat} {x : Int32} (hb : BB b) (hl : l < 4) : zF σ 1 203 [.ref (b + 5 + l), .int x] (zS1, m, yy) (.inl none) (zS1, ((x_lose m b l x)), yy) := by
  intro d hd
  obtain ⟨d, rfl⟩ : ∃ k, d = k + 1 := ⟨d - 1, by omega⟩
  exact xp_lose hd hb hl
end
section
theorem zx_ne (m : Nat → Nat → Int32) {a k i : Nat} (x : Int32) (l : Nat) (h : i ≠ a) : zm2 m a k x i l = m i l := by
  unfold zm2
  rw [if_neg h]
theorem zx_at (m : Nat → Nat → Int32) (a k : Nat) (x : Int32) : zm2 m a k x a k = x := by
  unfold zm2
  rw [if_pos rfl]
  exact upd_at _ _ _
theorem zx_nk (m : Nat → Nat → Int32) {a k l : Nat} (x : Int32) (h : l ≠ k) : zm2 m a k x a l = m a l := by
  unfold zm2
  rw [if_pos rfl]
  exact upd_ne _ _ h
/-- the nat number in a cell of the class -/
noncomputable def mv (m : Nat → Nat → Int32) (a k : Nat) : Nat := (m a k).toNatClampNeg
theorem c1lt {p : Nat} (h : p < 2147483648) : zc1 .lt (Int32.ofNat p) = false := by
  apply decide_eq_false
  rw [Int32.lt_iff_toInt_lt, zoN h, Int32.toInt_zero]
  omega
theorem zclt {a b : Nat} (ha : a < 2147483648) (hb : b < 2147483648) (h : a < b) : zc2 .lt (Int32.ofNat a) (Int32.ofNat b) = true := by
  apply decide_eq_true
  rw [Int32.lt_iff_toInt_lt, zoN ha, zoN hb]
  omega
noncomputable def x_kindAt (m : Nat → Nat → Int32) (b : Nat) (t : Nat) (p : Nat) : Int32 := (m ((b + 11 + 7 * t)) p)
theorem xp_kindAt {σ : Nat → Nat × (Nat → Int32)} {yy : (Nat → Nat → Int64) × Bool × Nat × Nat} {m : Nat → Nat → Int32} {b : Nat} {t : Nat} {p : Nat} {d : Nat} (hd : 1 ≤ d + 1) (hb : BB b) (ht : t < 4) (hp : p < 24) : zEv σ (d + 1) 1204 0 [some (.ref (b + 10 + 7 * t)), some (.int (Int32.ofNat p))] [] (zS1, m, yy) (.inl (some (.int (x_kindAt m b t p)))) (zS1, m, yy) := by
  refine zeP rfl rfl ?_
  refine zeF1 rfl rfl (c1lt (by omega)) ?_
  refine zeP rfl rfl ?_
  refine zeKn (c := 24) rfl rfl rfl ?_
  refine zeF2 rfl rfl (zcge_f (by omega) (by omega) (by omega)) ?_
  refine zeP rfl rfl ?_
  refine zeGR rfl rfl (shS hb (by omega)) rfl rfl ?_
  refine zeP rfl rfl ?_
  refine zeAL (k := p) rfl (bbl hb (by omega) (by omega)) (shK hb (by omega)) rfl (by omega) ?_
  refine zeP rfl rfl ?_
  exact zeRe rfl rfl rfl rfl (by rfl) (by rfl)
theorem xc_kindAt {σ : Nat → Nat × (Nat → Int32)} {yy : (Nat → Nat → Int64) × Bool × Nat × Nat} {m : Nat → Nat → Int32} {b : Nat} {t : Nat} {p : Nat} (hb : BB b) (ht : t < 4) (hp : p < 24) : zF σ 1 1204 [.ref (b + 10 + 7 * t), .int (Int32.ofNat p)] (zS1, m, yy) (.inl (some (.int (x_kindAt m b t p)))) (zS1, m, yy) := by
  intro d hd
  obtain ⟨d, rfl⟩ : ∃ k, d = k + 1 := ⟨d - 1, by omega⟩
  exact xp_kindAt hd hb ht hp
noncomputable def x_numberAt (m : Nat → Nat → Int32) (b : Nat) (t : Nat) (p : Nat) : Int32 := (m ((b + 12 + 7 * t)) p)
theorem xp_numberAt {σ : Nat → Nat × (Nat → Int32)} {yy : (Nat → Nat → Int64) × Bool × Nat × Nat} {m : Nat → Nat → Int32} {b : Nat} {t : Nat} {p : Nat} {d : Nat} (hd : 1 ≤ d + 1) (hb : BB b) (ht : t < 4) (hp : p < 24) : zEv σ (d + 1) 1205 0 [some (.ref (b + 10 + 7 * t)), some (.int (Int32.ofNat p))] [] (zS1, m, yy) (.inl (some (.int (x_numberAt m b t p)))) (zS1, m, yy) := by
  refine zeP rfl rfl ?_
  refine zeF1 rfl rfl (c1lt (by omega)) ?_
  refine zeP rfl rfl ?_
  refine zeKn (c := 24) rfl rfl rfl ?_
  refine zeF2 rfl rfl (zcge_f (by omega) (by omega) (by omega)) ?_
  refine zeP rfl rfl ?_
  refine zeGR rfl rfl (shS hb (by omega)) rfl rfl ?_
  refine zeP rfl rfl ?_
  refine zeAL (k := p) rfl (bbl hb (by omega) (by omega)) (shN hb (by omega)) rfl (by omega) ?_
  refine zeP rfl rfl ?_
  exact zeRe rfl rfl rfl rfl (by rfl) (by rfl)
theorem xc_numberAt {σ : Nat → Nat × (Nat → Int32)} {yy : (Nat → Nat → Int64) × Bool × Nat × Nat} {m : Nat → Nat → Int32} {b : Nat} {t : Nat} {p : Nat} (hb : BB b) (ht : t < 4) (hp : p < 24) : zF σ 1 1205 [.ref (b + 10 + 7 * t), .int (Int32.ofNat p)] (zS1, m, yy) (.inl (some (.int (x_numberAt m b t p)))) (zS1, m, yy) := by
  intro d hd
  obtain ⟨d, rfl⟩ : ∃ k, d = k + 1 := ⟨d - 1, by omega⟩
  exact xp_numberAt hd hb ht hp
noncomputable def x_logAdd (m : Nat → Nat → Int32) (b : Nat) (t : Int32) (u : Int32) (w : Int32) (v : Int32) : (Nat → Nat → Int32) := (bif zc2 .ge (((zm2 ((zm2 ((zm2 ((zm2 ((zm2 m ((b + 41)) (((mv m (b + 40) 2) * 4)) t)) ((b + 41)) ((((mv m (b + 40) 2) * 4) + 1)) u)) ((b + 41)) ((((mv m (b + 40) 2) * 4) + 2)) w)) ((b + 41)) ((((mv m (b + 40) 2) * 4) + 3)) v)) ((b + 40)) 2 (Int32.ofNat ((mv m (b + 40) 2 + 1) % 60)))) ((b + 40)) 1) (Int32.ofNat 60) then (zm2 ((zm2 ((zm2 ((zm2 ((zm2 m ((b + 41)) (((mv m (b + 40) 2) * 4)) t)) ((b + 41)) ((((mv m (b + 40) 2) * 4) + 1)) u)) ((b + 41)) ((((mv m (b + 40) 2) * 4) + 2)) w)) ((b + 41)) ((((mv m (b + 40) 2) * 4) + 3)) v)) ((b + 40)) 2 (Int32.ofNat ((mv m (b + 40) 2 + 1) % 60))) else (zm2 ((zm2 ((zm2 ((zm2 ((zm2 ((zm2 m ((b + 41)) (((mv m (b + 40) 2) * 4)) t)) ((b + 41)) ((((mv m (b + 40) 2) * 4) + 1)) u)) ((b + 41)) ((((mv m (b + 40) 2) * 4) + 2)) w)) ((b + 41)) ((((mv m (b + 40) 2) * 4) + 3)) v)) ((b + 40)) 2 (Int32.ofNat ((mv m (b + 40) 2 + 1) % 60)))) ((b + 40)) 1 ((((zm2 ((zm2 ((zm2 ((zm2 ((zm2 m ((b + 41)) (((mv m (b + 40) 2) * 4)) t)) ((b + 41)) ((((mv m (b + 40) 2) * 4) + 1)) u)) ((b + 41)) ((((mv m (b + 40) 2) * 4) + 2)) w)) ((b + 41)) ((((mv m (b + 40) 2) * 4) + 3)) v)) ((b + 40)) 2 (Int32.ofNat ((mv m (b + 40) 2 + 1) % 60)))) ((b + 40)) 1) + (Int32.ofNat 1))))
theorem xp_logAdd {σ : Nat → Nat × (Nat → Int32)} {yy : (Nat → Nat → Int64) × Bool × Nat × Nat} {m : Nat → Nat → Int32} {b : Nat} {t : Int32} {u : Int32} {w : Int32} {v : Int32} {d : Nat} (hd : 1 ≤ d + 1) (hb : BB b) (hn : m (b + 40) 2 = Int32.ofNat (mv m (b + 40) 2)) (hn60 : mv m (b + 40) 2 < 60) : zEv σ (d + 1) 402 0 [some (.ref (b + 40)), some (.int t), some (.int u), some (.int w), some (.int v), none] [] (zS1, m, yy) (.inl none) (zS1, ((x_logAdd m b t u w v)), yy) := by
  refine zeP rfl rfl ?_
  refine zeGI rfl rfl (shLG hb) rfl rfl ?_
  rw [hn]
  refine zeF1 rfl rfl (c1lt (by omega)) ?_
  refine zeP rfl rfl ?_
  refine zeGI rfl rfl (shLG hb) rfl rfl ?_
  rw [hn]
  refine zeKn (c := 60) rfl rfl rfl ?_
  refine zeT2 rfl rfl (zclt (by omega) (by omega) (by omega)) ?_
  refine zeP rfl rfl ?_
  refine zeGI rfl rfl (shLG hb) rfl rfl ?_
  rw [hn]
  refine zeKn (c := 4) rfl rfl rfl ?_
  refine zeMul rfl ?_
  refine zeP rfl rfl ?_
  refine zeP rfl rfl ?_
  refine zeGR rfl rfl (shLG hb) rfl rfl ?_
  refine zeP rfl rfl ?_
  refine zeP rfl rfl ?_
  refine zeAS (k := ((mv m (b + 40) 2) * 4)) rfl (shC hb) rfl (by omega) ?_
  refine zeP rfl rfl ?_
  refine zeGR rfl rfl (shLG hb) rfl rfl ?_
  refine zeP rfl rfl ?_
  refine zeKn (c := 1) rfl rfl rfl ?_
  refine zeAdd rfl ?_
  refine zeP rfl rfl ?_
  refine zeAS (k := (((mv m (b + 40) 2) * 4) + 1)) rfl (shC hb) rfl (by omega) ?_
  refine zeP rfl rfl ?_
  refine zeGR rfl rfl (shLG hb) rfl rfl ?_
  refine zeP rfl rfl ?_
  refine zeKn (c := 2) rfl rfl rfl ?_
  refine zeAdd rfl ?_
  refine zeP rfl rfl ?_
  refine zeAS (k := (((mv m (b + 40) 2) * 4) + 2)) rfl (shC hb) rfl (by omega) ?_
  refine zeP rfl rfl ?_
  refine zeGR rfl rfl (shLG hb) rfl rfl ?_
  refine zeP rfl rfl ?_
  refine zeKn (c := 3) rfl rfl rfl ?_
  refine zeAdd rfl ?_
  refine zeP rfl rfl ?_
  refine zeAS (k := (((mv m (b + 40) 2) * 4) + 3)) rfl (shC hb) rfl (by omega) ?_
  refine zeP rfl rfl ?_
  refine zeP rfl rfl ?_
  refine zeGI rfl rfl (shLG hb) rfl rfl ?_
  rw [(show (((zm2 ((zm2 ((zm2 ((zm2 m ((b + 41)) (((mv m (b + 40) 2) * 4)) t)) ((b + 41)) ((((mv m (b + 40) 2) * 4) + 1)) u)) ((b + 41)) ((((mv m (b + 40) 2) * 4) + 2)) w)) ((b + 41)) ((((mv m (b + 40) 2) * 4) + 3)) v)) ((b + 40)) 2) = Int32.ofNat (mv m (b + 40) 2) from (by simp (disch := omega) only [zx_ne]; exact hn))]
  refine zeKn (c := 1) rfl rfl rfl ?_
  refine zeAdd rfl ?_
  refine zeKn (c := 60) rfl rfl rfl ?_
  refine zeRem rfl (by decide) ?_
  rw [zremN (by omega) (by omega)]
  refine zePI rfl rfl (shLG hb) rfl ?_
  refine zeP rfl rfl ?_
  refine zeGI rfl rfl (shLG hb) rfl rfl ?_
  refine zeKn (c := 60) rfl rfl rfl ?_
  refine zeB2 rfl rfl (fun h1 => ?_) (fun h1 => ?_)
  · exact zeRe rfl rfl rfl rfl (by simp only [x_logAdd, h1, cond_true, cond_false] <;> rfl) (by simp only [x_logAdd, h1, cond_true, cond_false] <;> rfl)
  · refine zeP rfl rfl ?_
    refine zeP rfl rfl ?_
    refine zeGI rfl rfl (shLG hb) rfl rfl ?_
    refine zeKn (c := 1) rfl rfl rfl ?_
    refine zeP rfl rfl ?_
    refine zePI rfl rfl (shLG hb) rfl ?_
    exact zeRe rfl rfl rfl rfl (by simp only [x_logAdd, h1, cond_true, cond_false] <;> rfl) (by simp only [x_logAdd, h1, cond_true, cond_false] <;> rfl)
theorem xc_logAdd {σ : Nat → Nat × (Nat → Int32)} {yy : (Nat → Nat → Int64) × Bool × Nat × Nat} {m : Nat → Nat → Int32} {b : Nat} {t : Int32} {u : Int32} {w : Int32} {v : Int32} (hb : BB b) (hn : m (b + 40) 2 = Int32.ofNat (mv m (b + 40) 2)) (hn60 : mv m (b + 40) 2 < 60) : zF σ 1 402 [.ref (b + 40), .int t, .int u, .int w, .int v] (zS1, m, yy) (.inl none) (zS1, ((x_logAdd m b t u w v)), yy) := by
  intro d hd
  obtain ⟨d, rfl⟩ : ∃ k, d = k + 1 := ⟨d - 1, by omega⟩
  exact xp_logAdd hd hb hn hn60
end
