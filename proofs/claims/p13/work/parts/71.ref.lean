noncomputable def l_touched (W : Nat → Int32) (t : Nat) (a : Int32) (b : Int32) (c : Int32) : Nat → Int32 → Nat → Int32
  | 0, s, k => s
  | n + 1, s, k => (bif zc2 .ne (Int32.ofNat (nv W (376 + 103 * t + (55 + 2 * k)))) (Int32.ofNat 2) then (bif zc2 .ne (Int32.ofNat (nv W (376 + 103 * t + (55 + 2 * k)))) (Int32.ofNat 3) then (bif zc2 .gt (Int32.ofNat (nv W (376 + 103 * t + (55 + 2 * k)))) (Int32.ofNat 1) then (l_touched W t a b c n s ((k + 1))) else (bif zc1 .eq c then (l_touched W t a b c n s ((k + 1))) else (l_touched W t a b c n ((s ||| (q_blockOf W ((W (16 + (nv W (376 + 103 * t + (55 + 2 * k + 1))))))))) ((k + 1))))) else (bif zc1 .eq a then (bif zc2 .gt (Int32.ofNat (nv W (376 + 103 * t + (55 + 2 * k)))) (Int32.ofNat 1) then (l_touched W t a b c n s ((k + 1))) else (bif zc1 .eq c then (l_touched W t a b c n s ((k + 1))) else (l_touched W t a b c n ((s ||| (q_blockOf W ((W (16 + (nv W (376 + 103 * t + (55 + 2 * k + 1))))))))) ((k + 1))))) else (bif zc2 .gt (Int32.ofNat (nv W (376 + 103 * t + (55 + 2 * k)))) (Int32.ofNat 1) then (l_touched W t a b c n ((s ||| (q_blockOf W ((Int32.ofNat (nv W (376 + 103 * t + (55 + 2 * k + 1)))))))) ((k + 1))) else (bif zc1 .eq c then (l_touched W t a b c n ((s ||| (q_blockOf W ((Int32.ofNat (nv W (376 + 103 * t + (55 + 2 * k + 1)))))))) ((k + 1))) else (l_touched W t a b c n (((s ||| (q_blockOf W ((Int32.ofNat (nv W (376 + 103 * t + (55 + 2 * k + 1))))))) ||| (q_blockOf W ((W (16 + (nv W (376 + 103 * t + (55 + 2 * k + 1))))))))) ((k + 1))))))) else (bif zc1 .ne b then (bif zc2 .gt (Int32.ofNat (nv W (376 + 103 * t + (55 + 2 * k)))) (Int32.ofNat 1) then (l_touched W t a b c n ((s ||| (q_blockOf W ((Int32.ofNat (nv W (376 + 103 * t + (55 + 2 * k + 1)))))))) ((k + 1))) else (bif zc1 .eq c then (l_touched W t a b c n ((s ||| (q_blockOf W ((Int32.ofNat (nv W (376 + 103 * t + (55 + 2 * k + 1)))))))) ((k + 1))) else (l_touched W t a b c n (((s ||| (q_blockOf W ((Int32.ofNat (nv W (376 + 103 * t + (55 + 2 * k + 1))))))) ||| (q_blockOf W ((W (16 + (nv W (376 + 103 * t + (55 + 2 * k + 1))))))))) ((k + 1))))) else (bif zc2 .ne (Int32.ofNat (nv W (376 + 103 * t + (55 + 2 * k)))) (Int32.ofNat 3) then (bif zc2 .gt (Int32.ofNat (nv W (376 + 103 * t + (55 + 2 * k)))) (Int32.ofNat 1) then (l_touched W t a b c n s ((k + 1))) else (bif zc1 .eq c then (l_touched W t a b c n s ((k + 1))) else (l_touched W t a b c n ((s ||| (q_blockOf W ((W (16 + (nv W (376 + 103 * t + (55 + 2 * k + 1))))))))) ((k + 1))))) else (bif zc1 .eq a then (bif zc2 .gt (Int32.ofNat (nv W (376 + 103 * t + (55 + 2 * k)))) (Int32.ofNat 1) then (l_touched W t a b c n s ((k + 1))) else (bif zc1 .eq c then (l_touched W t a b c n s ((k + 1))) else (l_touched W t a b c n ((s ||| (q_blockOf W ((W (16 + (nv W (376 + 103 * t + (55 + 2 * k + 1))))))))) ((k + 1))))) else (bif zc2 .gt (Int32.ofNat (nv W (376 + 103 * t + (55 + 2 * k)))) (Int32.ofNat 1) then (l_touched W t a b c n ((s ||| (q_blockOf W ((Int32.ofNat (nv W (376 + 103 * t + (55 + 2 * k + 1)))))))) ((k + 1))) else (bif zc1 .eq c then (l_touched W t a b c n ((s ||| (q_blockOf W ((Int32.ofNat (nv W (376 + 103 * t + (55 + 2 * k + 1)))))))) ((k + 1))) else (l_touched W t a b c n (((s ||| (q_blockOf W ((Int32.ofNat (nv W (376 + 103 * t + (55 + 2 * k + 1))))))) ||| (q_blockOf W ((W (16 + (nv W (376 + 103 * t + (55 + 2 * k + 1))))))))) ((k + 1)))))))))
theorem w_touched {σ : Nat → Nat × (Nat → Int32)} {yy : (Nat → Nat → Int64) × Bool × Nat × Nat} {m : Nat → Nat → Int32} {W : Nat → Int32} {t : Nat} {a : Int32} {b : Int32} {c : Int32} {d : Nat} (hd : 4 ≤ d + 1) (hw : WG W) (ht : t < 4) (h24 : nv W (376 + 103 * t + 22) ≤ 24) : ∀ (n : Nat) (s : Int32) (k : Nat) (x7 : Option Value) (x8 : Option Value), k + n = nv W (376 + 103 * t + 22) → zEv σ (d + 1) 1894 6 [some (.ref 137), some (.int (Int32.ofNat t)), some (.int a), some (.int b), some (.int c), some (.int s), some (.int (Int32.ofNat k)), x7, x8] [] (zS1, zrow m 138 W, yy) (.inl (some (.int (l_touched W t a b c n s k)))) (zS1, zrow m 138 W, yy) := by
  intro n
  induction n with
  | zero =>
    intro s k x7 x8 hk
    refine zeP rfl rfl ?_
    refine zeP rfl rfl ?_
    refine zeP rfl rfl ?_
    refine zeKn (c := 22) rfl rfl rfl ?_
    refine zeCF rfl rfl rfl rfl rfl rfl (c_of (m := m) (W := W) (t := t) (k := 22) (by first | assumption | omega)) (by omega) ?_
    dsimp only [Option.toList, List.cons_append, List.nil_append]
    rw [show q_of W t 22 = Int32.ofNat (nv W (376 + 103 * t + 22)) from (hw.2 t ht).2.2.2.1.1]
    refine zeT2 rfl rfl (zcge (by omega) (by omega) (by omega)) ?_
    refine zeP rfl rfl ?_
    exact zeRe rfl rfl rfl rfl (by rfl) (by rfl)
  | succ n ih =>
    intro s k x7 x8 hk
    refine zeP rfl rfl ?_
    refine zeP rfl rfl ?_
    refine zeP rfl rfl ?_
    refine zeKn (c := 22) rfl rfl rfl ?_
    refine zeCF rfl rfl rfl rfl rfl rfl (c_of (m := m) (W := W) (t := t) (k := 22) (by first | assumption | omega)) (by omega) ?_
    dsimp only [Option.toList, List.cons_append, List.nil_append]
    rw [show q_of W t 22 = Int32.ofNat (nv W (376 + 103 * t + 22)) from (hw.2 t ht).2.2.2.1.1]
    refine zeF2 rfl rfl (zcge_f (by omega) (by omega) (by omega)) ?_
    refine zeP rfl rfl ?_
    refine zeP rfl rfl ?_
    refine zeP rfl rfl ?_
    refine zeKn (c := 0) rfl rfl rfl ?_
    refine zeCF rfl rfl rfl rfl rfl rfl (c_deedOf (m := m) (W := W) (t := t) (p := k) (k := 0) (by first | assumption | omega)) (by omega) ?_
    dsimp only [Option.toList, List.cons_append, List.nil_append]
    rw [show q_deedOf W t k 0 = Int32.ofNat (nv W (376 + 103 * t + (55 + 2 * k))) from ((hw.2 t ht).2.2.2.2.2.2.2 k (by omega)).1.1]
    refine zeP rfl rfl ?_
    refine zeP rfl rfl ?_
    refine zeP rfl rfl ?_
    refine zeP rfl rfl ?_
    refine zeKn (c := 1) rfl rfl rfl ?_
    refine zeCF rfl rfl rfl rfl rfl rfl (c_deedOf (m := m) (W := W) (t := t) (p := k) (k := 1) (by first | assumption | omega)) (by omega) ?_
    dsimp only [Option.toList, List.cons_append, List.nil_append]
    rw [show q_deedOf W t k 1 = Int32.ofNat (nv W (376 + 103 * t + (55 + 2 * k + 1))) from ((hw.2 t ht).2.2.2.2.2.2.2 k (by omega)).2.1.1]
    refine zeP rfl rfl ?_
    refine zeP rfl rfl ?_
    refine zeKn (c := 2) rfl rfl rfl ?_
    refine zeB2 rfl rfl (fun h1 => ?_) (fun h1 => ?_)
    · refine zeP rfl rfl ?_
      refine zeKn (c := 3) rfl rfl rfl ?_
      refine zeB2 rfl rfl (fun h2 => ?_) (fun h2 => ?_)
      · refine zeP rfl rfl ?_
        refine zeKn (c := 1) rfl rfl rfl ?_
        refine zeB2 rfl rfl (fun h3 => ?_) (fun h3 => ?_)
        · refine zeInc rfl rfl ?_
          refine zeP rfl rfl ?_
          simp only [l_touched, h1, h2, h3, cond_true, cond_false]
          exact ih (s) ((k + 1)) (some (.int (Int32.ofNat (nv W (376 + 103 * t + (55 + 2 * k)))))) (some (.int (Int32.ofNat (nv W (376 + 103 * t + (55 + 2 * k + 1))))))   (by omega) 
        · refine zeP rfl rfl ?_
          refine zeB1 rfl rfl (fun h4 => ?_) (fun h4 => ?_)
          · refine zeInc rfl rfl ?_
            refine zeP rfl rfl ?_
            simp only [l_touched, h1, h2, h3, h4, cond_true, cond_false]
            exact ih (s) ((k + 1)) (some (.int (Int32.ofNat (nv W (376 + 103 * t + (55 + 2 * k)))))) (some (.int (Int32.ofNat (nv W (376 + 103 * t + (55 + 2 * k + 1))))))   (by omega) 
          · refine zeP rfl rfl ?_
            refine zeP rfl rfl ?_
            refine zeP rfl rfl ?_
            refine zeGR rfl rfl zS137 rfl rfl ?_
            refine zeKn (c := 16) rfl rfl rfl ?_
            refine zeP rfl rfl ?_
            refine zeAdd rfl ?_
            refine zeWL (k := (16 + (nv W (376 + 103 * t + (55 + 2 * k + 1))))) rfl (by have e1 := ((hw.2 t ht).2.2.2.2.2.2.2 k (by omega)); have e2 := e1.1.2.2; have e3 := e1.2.2.1 (zgt_le (by omega) (by omega) (by assumption)); omega) ?_
            refine zeCF rfl rfl rfl rfl rfl rfl (c_blockOf (m := m) (W := W) (w := (W (16 + (nv W (376 + 103 * t + (55 + 2 * k + 1)))))) hw.Z) (by omega) ?_
            dsimp only [Option.toList, List.cons_append, List.nil_append]
            refine zeP rfl rfl ?_
            refine zeP rfl rfl ?_
            refine zeInc rfl rfl ?_
            refine zeP rfl rfl ?_
            simp only [l_touched, h1, h2, h3, h4, cond_true, cond_false]
            exact ih ((s ||| (q_blockOf W ((W (16 + (nv W (376 + 103 * t + (55 + 2 * k + 1))))))))) ((k + 1)) (some (.int (Int32.ofNat (nv W (376 + 103 * t + (55 + 2 * k)))))) (some (.int (Int32.ofNat (nv W (376 + 103 * t + (55 + 2 * k + 1))))))   (by omega) 
      · refine zeP rfl rfl ?_
        refine zeB1 rfl rfl (fun h5 => ?_) (fun h5 => ?_)
        · refine zeP rfl rfl ?_
          refine zeKn (c := 1) rfl rfl rfl ?_
          refine zeB2 rfl rfl (fun h6 => ?_) (fun h6 => ?_)
          · refine zeInc rfl rfl ?_
            refine zeP rfl rfl ?_
            simp only [l_touched, h1, h2, h5, h6, cond_true, cond_false]
            exact ih (s) ((k + 1)) (some (.int (Int32.ofNat (nv W (376 + 103 * t + (55 + 2 * k)))))) (some (.int (Int32.ofNat (nv W (376 + 103 * t + (55 + 2 * k + 1))))))   (by omega) 
          · refine zeP rfl rfl ?_
            refine zeB1 rfl rfl (fun h7 => ?_) (fun h7 => ?_)
            · refine zeInc rfl rfl ?_
              refine zeP rfl rfl ?_
              simp only [l_touched, h1, h2, h5, h6, h7, cond_true, cond_false]
              exact ih (s) ((k + 1)) (some (.int (Int32.ofNat (nv W (376 + 103 * t + (55 + 2 * k)))))) (some (.int (Int32.ofNat (nv W (376 + 103 * t + (55 + 2 * k + 1))))))   (by omega) 
            · refine zeP rfl rfl ?_
              refine zeP rfl rfl ?_
              refine zeP rfl rfl ?_
              refine zeGR rfl rfl zS137 rfl rfl ?_
              refine zeKn (c := 16) rfl rfl rfl ?_
              refine zeP rfl rfl ?_
              refine zeAdd rfl ?_
              refine zeWL (k := (16 + (nv W (376 + 103 * t + (55 + 2 * k + 1))))) rfl (by have e1 := ((hw.2 t ht).2.2.2.2.2.2.2 k (by omega)); have e2 := e1.1.2.2; have e3 := e1.2.2.1 (zgt_le (by omega) (by omega) (by assumption)); omega) ?_
              refine zeCF rfl rfl rfl rfl rfl rfl (c_blockOf (m := m) (W := W) (w := (W (16 + (nv W (376 + 103 * t + (55 + 2 * k + 1)))))) hw.Z) (by omega) ?_
              dsimp only [Option.toList, List.cons_append, List.nil_append]
              refine zeP rfl rfl ?_
              refine zeP rfl rfl ?_
              refine zeInc rfl rfl ?_
              refine zeP rfl rfl ?_
              simp only [l_touched, h1, h2, h5, h6, h7, cond_true, cond_false]
              exact ih ((s ||| (q_blockOf W ((W (16 + (nv W (376 + 103 * t + (55 + 2 * k + 1))))))))) ((k + 1)) (some (.int (Int32.ofNat (nv W (376 + 103 * t + (55 + 2 * k)))))) (some (.int (Int32.ofNat (nv W (376 + 103 * t + (55 + 2 * k + 1))))))   (by omega) 
        · refine zeP rfl rfl ?_
          refine zeP rfl rfl ?_
          refine zeP rfl rfl ?_
          refine zeCF rfl rfl rfl rfl rfl rfl (c_blockOf (m := m) (W := W) (w := (Int32.ofNat (nv W (376 + 103 * t + (55 + 2 * k + 1))))) hw.Z) (by omega) ?_
          dsimp only [Option.toList, List.cons_append, List.nil_append]
          refine zeP rfl rfl ?_
          refine zeP rfl rfl ?_
          refine zeP rfl rfl ?_
          refine zeKn (c := 1) rfl rfl rfl ?_
          refine zeB2 rfl rfl (fun h8 => ?_) (fun h8 => ?_)
          · refine zeInc rfl rfl ?_
            refine zeP rfl rfl ?_
            simp only [l_touched, h1, h2, h5, h8, cond_true, cond_false]
            exact ih ((s ||| (q_blockOf W ((Int32.ofNat (nv W (376 + 103 * t + (55 + 2 * k + 1)))))))) ((k + 1)) (some (.int (Int32.ofNat (nv W (376 + 103 * t + (55 + 2 * k)))))) (some (.int (Int32.ofNat (nv W (376 + 103 * t + (55 + 2 * k + 1))))))   (by omega) 
          · refine zeP rfl rfl ?_
            refine zeB1 rfl rfl (fun h9 => ?_) (fun h9 => ?_)
            · refine zeInc rfl rfl ?_
              refine zeP rfl rfl ?_
              simp only [l_touched, h1, h2, h5, h8, h9, cond_true, cond_false]
              exact ih ((s ||| (q_blockOf W ((Int32.ofNat (nv W (376 + 103 * t + (55 + 2 * k + 1)))))))) ((k + 1)) (some (.int (Int32.ofNat (nv W (376 + 103 * t + (55 + 2 * k)))))) (some (.int (Int32.ofNat (nv W (376 + 103 * t + (55 + 2 * k + 1))))))   (by omega) 
            · refine zeP rfl rfl ?_
              refine zeP rfl rfl ?_
              refine zeP rfl rfl ?_
              refine zeGR rfl rfl zS137 rfl rfl ?_
              refine zeKn (c := 16) rfl rfl rfl ?_
              refine zeP rfl rfl ?_
              refine zeAdd rfl ?_
              refine zeWL (k := (16 + (nv W (376 + 103 * t + (55 + 2 * k + 1))))) rfl (by have e1 := ((hw.2 t ht).2.2.2.2.2.2.2 k (by omega)); have e2 := e1.1.2.2; have e3 := e1.2.2.1 (zgt_le (by omega) (by omega) (by assumption)); omega) ?_
              refine zeCF rfl rfl rfl rfl rfl rfl (c_blockOf (m := m) (W := W) (w := (W (16 + (nv W (376 + 103 * t + (55 + 2 * k + 1)))))) hw.Z) (by omega) ?_
              dsimp only [Option.toList, List.cons_append, List.nil_append]
              refine zeP rfl rfl ?_
              refine zeP rfl rfl ?_
              refine zeInc rfl rfl ?_
              refine zeP rfl rfl ?_
              simp only [l_touched, h1, h2, h5, h8, h9, cond_true, cond_false]
              exact ih (((s ||| (q_blockOf W ((Int32.ofNat (nv W (376 + 103 * t + (55 + 2 * k + 1))))))) ||| (q_blockOf W ((W (16 + (nv W (376 + 103 * t + (55 + 2 * k + 1))))))))) ((k + 1)) (some (.int (Int32.ofNat (nv W (376 + 103 * t + (55 + 2 * k)))))) (some (.int (Int32.ofNat (nv W (376 + 103 * t + (55 + 2 * k + 1))))))   (by omega) 
    · refine zeP rfl rfl ?_
      refine zeB1 rfl rfl (fun h10 => ?_) (fun h10 => ?_)
      · refine zeP rfl rfl ?_
        refine zeP rfl rfl ?_
        refine zeP rfl rfl ?_
        refine zeCF rfl rfl rfl rfl rfl rfl (c_blockOf (m := m) (W := W) (w := (Int32.ofNat (nv W (376 + 103 * t + (55 + 2 * k + 1))))) hw.Z) (by omega) ?_
        dsimp only [Option.toList, List.cons_append, List.nil_append]
        refine zeP rfl rfl ?_
        refine zeP rfl rfl ?_
        refine zeP rfl rfl ?_
        refine zeKn (c := 1) rfl rfl rfl ?_
        refine zeB2 rfl rfl (fun h11 => ?_) (fun h11 => ?_)
        · refine zeInc rfl rfl ?_
          refine zeP rfl rfl ?_
          simp only [l_touched, h1, h10, h11, cond_true, cond_false]
          exact ih ((s ||| (q_blockOf W ((Int32.ofNat (nv W (376 + 103 * t + (55 + 2 * k + 1)))))))) ((k + 1)) (some (.int (Int32.ofNat (nv W (376 + 103 * t + (55 + 2 * k)))))) (some (.int (Int32.ofNat (nv W (376 + 103 * t + (55 + 2 * k + 1))))))   (by omega) 
        · refine zeP rfl rfl ?_
          refine zeB1 rfl rfl (fun h12 => ?_) (fun h12 => ?_)
          · refine zeInc rfl rfl ?_
            refine zeP rfl rfl ?_
            simp only [l_touched, h1, h10, h11, h12, cond_true, cond_false]
            exact ih ((s ||| (q_blockOf W ((Int32.ofNat (nv W (376 + 103 * t + (55 + 2 * k + 1)))))))) ((k + 1)) (some (.int (Int32.ofNat (nv W (376 + 103 * t + (55 + 2 * k)))))) (some (.int (Int32.ofNat (nv W (376 + 103 * t + (55 + 2 * k + 1))))))   (by omega) 
          · refine zeP rfl rfl ?_
            refine zeP rfl rfl ?_
            refine zeP rfl rfl ?_
            refine zeGR rfl rfl zS137 rfl rfl ?_
            refine zeKn (c := 16) rfl rfl rfl ?_
            refine zeP rfl rfl ?_
            refine zeAdd rfl ?_
            refine zeWL (k := (16 + (nv W (376 + 103 * t + (55 + 2 * k + 1))))) rfl (by have e1 := ((hw.2 t ht).2.2.2.2.2.2.2 k (by omega)); have e2 := e1.1.2.2; have e3 := e1.2.2.1 (zgt_le (by omega) (by omega) (by assumption)); omega) ?_
            refine zeCF rfl rfl rfl rfl rfl rfl (c_blockOf (m := m) (W := W) (w := (W (16 + (nv W (376 + 103 * t + (55 + 2 * k + 1)))))) hw.Z) (by omega) ?_
            dsimp only [Option.toList, List.cons_append, List.nil_append]
            refine zeP rfl rfl ?_
            refine zeP rfl rfl ?_
            refine zeInc rfl rfl ?_
            refine zeP rfl rfl ?_
            simp only [l_touched, h1, h10, h11, h12, cond_true, cond_false]
            exact ih (((s ||| (q_blockOf W ((Int32.ofNat (nv W (376 + 103 * t + (55 + 2 * k + 1))))))) ||| (q_blockOf W ((W (16 + (nv W (376 + 103 * t + (55 + 2 * k + 1))))))))) ((k + 1)) (some (.int (Int32.ofNat (nv W (376 + 103 * t + (55 + 2 * k)))))) (some (.int (Int32.ofNat (nv W (376 + 103 * t + (55 + 2 * k + 1))))))   (by omega) 
      · refine zeP rfl rfl ?_
        refine zeKn (c := 3) rfl rfl rfl ?_
        refine zeB2 rfl rfl (fun h13 => ?_) (fun h13 => ?_)
        · refine zeP rfl rfl ?_
          refine zeKn (c := 1) rfl rfl rfl ?_
          refine zeB2 rfl rfl (fun h14 => ?_) (fun h14 => ?_)
          · refine zeInc rfl rfl ?_
            refine zeP rfl rfl ?_
            simp only [l_touched, h1, h10, h13, h14, cond_true, cond_false]
            exact ih (s) ((k + 1)) (some (.int (Int32.ofNat (nv W (376 + 103 * t + (55 + 2 * k)))))) (some (.int (Int32.ofNat (nv W (376 + 103 * t + (55 + 2 * k + 1))))))   (by omega) 
          · refine zeP rfl rfl ?_
            refine zeB1 rfl rfl (fun h15 => ?_) (fun h15 => ?_)
            · refine zeInc rfl rfl ?_
              refine zeP rfl rfl ?_
              simp only [l_touched, h1, h10, h13, h14, h15, cond_true, cond_false]
              exact ih (s) ((k + 1)) (some (.int (Int32.ofNat (nv W (376 + 103 * t + (55 + 2 * k)))))) (some (.int (Int32.ofNat (nv W (376 + 103 * t + (55 + 2 * k + 1))))))   (by omega) 
            · refine zeP rfl rfl ?_
              refine zeP rfl rfl ?_
              refine zeP rfl rfl ?_
              refine zeGR rfl rfl zS137 rfl rfl ?_
              refine zeKn (c := 16) rfl rfl rfl ?_
              refine zeP rfl rfl ?_
              refine zeAdd rfl ?_
              refine zeWL (k := (16 + (nv W (376 + 103 * t + (55 + 2 * k + 1))))) rfl (by have e1 := ((hw.2 t ht).2.2.2.2.2.2.2 k (by omega)); have e2 := e1.1.2.2; have e3 := e1.2.2.1 (zgt_le (by omega) (by omega) (by assumption)); omega) ?_
              refine zeCF rfl rfl rfl rfl rfl rfl (c_blockOf (m := m) (W := W) (w := (W (16 + (nv W (376 + 103 * t + (55 + 2 * k + 1)))))) hw.Z) (by omega) ?_
              dsimp only [Option.toList, List.cons_append, List.nil_append]
              refine zeP rfl rfl ?_
              refine zeP rfl rfl ?_
              refine zeInc rfl rfl ?_
              refine zeP rfl rfl ?_
              simp only [l_touched, h1, h10, h13, h14, h15, cond_true, cond_false]
              exact ih ((s ||| (q_blockOf W ((W (16 + (nv W (376 + 103 * t + (55 + 2 * k + 1))))))))) ((k + 1)) (some (.int (Int32.ofNat (nv W (376 + 103 * t + (55 + 2 * k)))))) (some (.int (Int32.ofNat (nv W (376 + 103 * t + (55 + 2 * k + 1))))))   (by omega) 
        · refine zeP rfl rfl ?_
          refine zeB1 rfl rfl (fun h16 => ?_) (fun h16 => ?_)
          · refine zeP rfl rfl ?_
            refine zeKn (c := 1) rfl rfl rfl ?_
            refine zeB2 rfl rfl (fun h17 => ?_) (fun h17 => ?_)
            · refine zeInc rfl rfl ?_
              refine zeP rfl rfl ?_
              simp only [l_touched, h1, h10, h13, h16, h17, cond_true, cond_false]
              exact ih (s) ((k + 1)) (some (.int (Int32.ofNat (nv W (376 + 103 * t + (55 + 2 * k)))))) (some (.int (Int32.ofNat (nv W (376 + 103 * t + (55 + 2 * k + 1))))))   (by omega) 
            · refine zeP rfl rfl ?_
              refine zeB1 rfl rfl (fun h18 => ?_) (fun h18 => ?_)
              · refine zeInc rfl rfl ?_
                refine zeP rfl rfl ?_
                simp only [l_touched, h1, h10, h13, h16, h17, h18, cond_true, cond_false]
                exact ih (s) ((k + 1)) (some (.int (Int32.ofNat (nv W (376 + 103 * t + (55 + 2 * k)))))) (some (.int (Int32.ofNat (nv W (376 + 103 * t + (55 + 2 * k + 1))))))   (by omega) 
              · refine zeP rfl rfl ?_
                refine zeP rfl rfl ?_
                refine zeP rfl rfl ?_
                refine zeGR rfl rfl zS137 rfl rfl ?_
                refine zeKn (c := 16) rfl rfl rfl ?_
                refine zeP rfl rfl ?_
                refine zeAdd rfl ?_
                refine zeWL (k := (16 + (nv W (376 + 103 * t + (55 + 2 * k + 1))))) rfl (by have e1 := ((hw.2 t ht).2.2.2.2.2.2.2 k (by omega)); have e2 := e1.1.2.2; have e3 := e1.2.2.1 (zgt_le (by omega) (by omega) (by assumption)); omega) ?_
                refine zeCF rfl rfl rfl rfl rfl rfl (c_blockOf (m := m) (W := W) (w := (W (16 + (nv W (376 + 103 * t + (55 + 2 * k + 1)))))) hw.Z) (by omega) ?_
                dsimp only [Option.toList, List.cons_append, List.nil_append]
                refine zeP rfl rfl ?_
                refine zeP rfl rfl ?_
                refine zeInc rfl rfl ?_
                refine zeP rfl rfl ?_
                simp only [l_touched, h1, h10, h13, h16, h17, h18, cond_true, cond_false]
                exact ih ((s ||| (q_blockOf W ((W (16 + (nv W (376 + 103 * t + (55 + 2 * k + 1))))))))) ((k + 1)) (some (.int (Int32.ofNat (nv W (376 + 103 * t + (55 + 2 * k)))))) (some (.int (Int32.ofNat (nv W (376 + 103 * t + (55 + 2 * k + 1))))))   (by omega) 
          · refine zeP rfl rfl ?_
            refine zeP rfl rfl ?_
            refine zeP rfl rfl ?_
            refine zeCF rfl rfl rfl rfl rfl rfl (c_blockOf (m := m) (W := W) (w := (Int32.ofNat (nv W (376 + 103 * t + (55 + 2 * k + 1))))) hw.Z) (by omega) ?_
            dsimp only [Option.toList, List.cons_append, List.nil_append]
            refine zeP rfl rfl ?_
            refine zeP rfl rfl ?_
            refine zeP rfl rfl ?_
            refine zeKn (c := 1) rfl rfl rfl ?_
            refine zeB2 rfl rfl (fun h19 => ?_) (fun h19 => ?_)
            · refine zeInc rfl rfl ?_
              refine zeP rfl rfl ?_
              simp only [l_touched, h1, h10, h13, h16, h19, cond_true, cond_false]
              exact ih ((s ||| (q_blockOf W ((Int32.ofNat (nv W (376 + 103 * t + (55 + 2 * k + 1)))))))) ((k + 1)) (some (.int (Int32.ofNat (nv W (376 + 103 * t + (55 + 2 * k)))))) (some (.int (Int32.ofNat (nv W (376 + 103 * t + (55 + 2 * k + 1))))))   (by omega) 
            · refine zeP rfl rfl ?_
              refine zeB1 rfl rfl (fun h20 => ?_) (fun h20 => ?_)
              · refine zeInc rfl rfl ?_
                refine zeP rfl rfl ?_
                simp only [l_touched, h1, h10, h13, h16, h19, h20, cond_true, cond_false]
                exact ih ((s ||| (q_blockOf W ((Int32.ofNat (nv W (376 + 103 * t + (55 + 2 * k + 1)))))))) ((k + 1)) (some (.int (Int32.ofNat (nv W (376 + 103 * t + (55 + 2 * k)))))) (some (.int (Int32.ofNat (nv W (376 + 103 * t + (55 + 2 * k + 1))))))   (by omega) 
              · refine zeP rfl rfl ?_
                refine zeP rfl rfl ?_
                refine zeP rfl rfl ?_
                refine zeGR rfl rfl zS137 rfl rfl ?_
                refine zeKn (c := 16) rfl rfl rfl ?_
                refine zeP rfl rfl ?_
                refine zeAdd rfl ?_
                refine zeWL (k := (16 + (nv W (376 + 103 * t + (55 + 2 * k + 1))))) rfl (by have e1 := ((hw.2 t ht).2.2.2.2.2.2.2 k (by omega)); have e2 := e1.1.2.2; have e3 := e1.2.2.1 (zgt_le (by omega) (by omega) (by assumption)); omega) ?_
                refine zeCF rfl rfl rfl rfl rfl rfl (c_blockOf (m := m) (W := W) (w := (W (16 + (nv W (376 + 103 * t + (55 + 2 * k + 1)))))) hw.Z) (by omega) ?_
                dsimp only [Option.toList, List.cons_append, List.nil_append]
                refine zeP rfl rfl ?_
                refine zeP rfl rfl ?_
                refine zeInc rfl rfl ?_
                refine zeP rfl rfl ?_
                simp only [l_touched, h1, h10, h13, h16, h19, h20, cond_true, cond_false]
                exact ih (((s ||| (q_blockOf W ((Int32.ofNat (nv W (376 + 103 * t + (55 + 2 * k + 1))))))) ||| (q_blockOf W ((W (16 + (nv W (376 + 103 * t + (55 + 2 * k + 1))))))))) ((k + 1)) (some (.int (Int32.ofNat (nv W (376 + 103 * t + (55 + 2 * k)))))) (some (.int (Int32.ofNat (nv W (376 + 103 * t + (55 + 2 * k + 1))))))   (by omega) 
noncomputable def q_touched (W : Nat → Int32) (t : Nat) (a : Int32) (b : Int32) (c : Int32) : Int32 := (l_touched W t a b c ((nv W (376 + 103 * t + 22))) ((Int32.ofNat 0)) 0)
theorem p_touched {σ : Nat → Nat × (Nat → Int32)} {yy : (Nat → Nat → Int64) × Bool × Nat × Nat} {m : Nat → Nat → Int32} {W : Nat → Int32} {t : Nat} {a : Int32} {b : Int32} {c : Int32} {d : Nat} (hd : 4 ≤ d + 1) (hw : WG W) (ht : t < 4) : zEv σ (d + 1) 1894 0 [some (.ref 137), some (.int (Int32.ofNat t)), some (.int a), some (.int b), some (.int c), none, none, none, none] [] (zS1, zrow m 138 W, yy) (.inl (some (.int (q_touched W t a b c)))) (zS1, zrow m 138 W, yy) := by
  refine zeKn (c := 0) rfl rfl rfl ?_
  refine zeP rfl rfl ?_
  refine zeKn (c := 0) rfl rfl rfl ?_
  refine zeP rfl rfl ?_
  simp only [q_touched, cond_true, cond_false]
  exact w_touched (t := t) (a := a) (b := b) (c := c) (W := W) (m := m) (by omega) hw ht (hw.2 t ht).2.2.2.1.2.2 ((nv W (376 + 103 * t + 22))) ((Int32.ofNat 0)) (0) (none) (none)   (by omega) 
theorem c_touched {σ : Nat → Nat × (Nat → Int32)} {yy : (Nat → Nat → Int64) × Bool × Nat × Nat} {m : Nat → Nat → Int32} {W : Nat → Int32} {t : Nat} {a : Int32} {b : Int32} {c : Int32} (hw : WG W) (ht : t < 4) : zF σ 4 1894 [.ref 137, .int (Int32.ofNat t), .int a, .int b, .int c] (zS1, zrow m 138 W, yy) (.inl (some (.int (q_touched W t a b c)))) (zS1, zrow m 138 W, yy) := by
  intro d hd
  obtain ⟨d, rfl⟩ : ∃ k, d = k + 1 := ⟨d - 1, by omega⟩
  exact p_touched hd hw ht
noncomputable def q_touches (m : Nat → Nat → Int32) (W : Nat → Int32) (t : Int32) (x : Int32) : Int32 × (Nat → Nat → Int32) := (bif zc1 .ne (q_noThread m W t).1 then ((Int32.ofNat 0), (q_noThread m W t).2) else (bif zc1 .ne (q_in x ((Int32.ofNat 0)) ((Int32.ofNat 1))) then (bif zc2 .ne x (Int32.ofNat 1) then (bif zc1 .ne x then ((q_touched W ((t.toNatClampNeg)) ((Int32.ofNat 0)) ((Int32.ofNat 0)) ((Int32.ofNat 1))), (q_noThread m W t).2) else ((q_touched W ((t.toNatClampNeg)) ((Int32.ofNat 0)) ((Int32.ofNat 1)) ((Int32.ofNat 1))), (q_noThread m W t).2)) else (bif zc1 .ne x then ((q_touched W ((t.toNatClampNeg)) ((Int32.ofNat 1)) ((Int32.ofNat 0)) ((Int32.ofNat 1))), (q_noThread m W t).2) else ((q_touched W ((t.toNatClampNeg)) ((Int32.ofNat 1)) ((Int32.ofNat 1)) ((Int32.ofNat 1))), (q_noThread m W t).2))) else ((Int32.ofNat 0), (q_thr1 ((q_noThread m W t).2) 2).2)))
theorem p_touches {σ : Nat → Nat × (Nat → Int32)} {yy : (Nat → Nat → Int64) × Bool × Nat × Nat} {m : Nat → Nat → Int32} {W : Nat → Int32} {t : Int32} {x : Int32} {d : Nat} (hd : 5 ≤ d + 1) (hw : WG W) : zEv σ (d + 1) 1895 0 [some (.ref 137), some (.int t), some (.int x)] [] (zS1, zrow m 138 W, yy) (.inl (some (.int (q_touches m W t x).1))) (zS1, zrow ((q_touches m W t x).2) 138 W, yy) := by
  refine zeP rfl rfl ?_
  refine zeP rfl rfl ?_
  refine zeCF rfl rfl rfl rfl rfl rfl (c_noThread (m := m) (W := W) (t := t) ) (by omega) ?_
  dsimp only [Option.toList, List.cons_append, List.nil_append]
  refine zeB1 rfl rfl (fun h1 => ?_) (fun h1 => ?_)
  · refine zeKn (c := 0) rfl rfl rfl ?_
    refine zeP rfl rfl ?_
    exact zeRe rfl rfl rfl rfl (by simp only [q_touches, h1, cond_true, cond_false] <;> rfl) (by simp only [q_touches, h1, cond_true, cond_false] <;> rfl)
  · have ct : t = Int32.ofNat t.toNatClampNeg ∧ t.toNatClampNeg < nv W 9 := (nT_in hw (by assumption))
    refine zeP rfl rfl ?_
    refine zeP rfl rfl ?_
    refine zeKn (c := 0) rfl rfl rfl ?_
    refine zeKn (c := 1) rfl rfl rfl ?_
    refine zeCF rfl rfl rfl rfl rfl rfl (c_in (m := (q_noThread m W t).2) (W := W) (v := x) (lo := (Int32.ofNat 0)) (hi := (Int32.ofNat 1)) ) (by omega) ?_
    dsimp only [Option.toList, List.cons_append, List.nil_append]
    refine zeB1 rfl rfl (fun h2 => ?_) (fun h2 => ?_)
    · refine zeKn (c := 0) rfl rfl rfl ?_
      refine zeKn (c := 2) rfl rfl rfl ?_
      refine zeCF rfl rfl rfl rfl rfl rfl (c_thr0 (m := (q_noThread m W t).2) (W := W) (c := 2) ) (by omega) ?_
      dsimp only [Option.toList, List.cons_append, List.nil_append]
      refine zeT1 rfl rfl (show zc1 .eq (Int32.ofNat 0) = true by decide) ?_
      refine zeP rfl rfl ?_
      refine zeKn (c := t.toNatClampNeg) rfl rfl ct.1 ?_
      refine zeP rfl rfl ?_
      refine zeKn (c := 1) rfl rfl rfl ?_
      refine zeB2 rfl rfl (fun h3 => ?_) (fun h3 => ?_)
      · refine zeKn (c := 0) rfl rfl rfl ?_
        refine zeP rfl rfl ?_
        refine zeB1 rfl rfl (fun h4 => ?_) (fun h4 => ?_)
        · refine zeKn (c := 0) rfl rfl rfl ?_
          refine zeKn (c := 1) rfl rfl rfl ?_
          refine zeCF rfl rfl rfl rfl rfl rfl (c_touched (m := (q_noThread m W t).2) (W := W) (t := (t.toNatClampNeg)) (a := (Int32.ofNat 0)) (b := (Int32.ofNat 0)) (c := (Int32.ofNat 1)) hw (by have := hw.N4; omega)) (by omega) ?_
          dsimp only [Option.toList, List.cons_append, List.nil_append]
          exact zeRe rfl rfl rfl rfl (by simp only [q_touches, h1, h2, h3, h4, cond_true, cond_false] <;> rfl) (by simp only [q_touches, h1, h2, h3, h4, cond_true, cond_false] <;> rfl)
        · refine zeKn (c := 1) rfl rfl rfl ?_
          refine zeP rfl rfl ?_
          refine zeKn (c := 1) rfl rfl rfl ?_
          refine zeCF rfl rfl rfl rfl rfl rfl (c_touched (m := (q_noThread m W t).2) (W := W) (t := (t.toNatClampNeg)) (a := (Int32.ofNat 0)) (b := (Int32.ofNat 1)) (c := (Int32.ofNat 1)) hw (by have := hw.N4; omega)) (by omega) ?_
          dsimp only [Option.toList, List.cons_append, List.nil_append]
          exact zeRe rfl rfl rfl rfl (by simp only [q_touches, h1, h2, h3, h4, cond_true, cond_false] <;> rfl) (by simp only [q_touches, h1, h2, h3, h4, cond_true, cond_false] <;> rfl)
      · refine zeKn (c := 1) rfl rfl rfl ?_
        refine zeP rfl rfl ?_
        refine zeP rfl rfl ?_
        refine zeB1 rfl rfl (fun h5 => ?_) (fun h5 => ?_)
        · refine zeKn (c := 0) rfl rfl rfl ?_
          refine zeKn (c := 1) rfl rfl rfl ?_
          refine zeCF rfl rfl rfl rfl rfl rfl (c_touched (m := (q_noThread m W t).2) (W := W) (t := (t.toNatClampNeg)) (a := (Int32.ofNat 1)) (b := (Int32.ofNat 0)) (c := (Int32.ofNat 1)) hw (by have := hw.N4; omega)) (by omega) ?_
          dsimp only [Option.toList, List.cons_append, List.nil_append]
          exact zeRe rfl rfl rfl rfl (by simp only [q_touches, h1, h2, h3, h5, cond_true, cond_false] <;> rfl) (by simp only [q_touches, h1, h2, h3, h5, cond_true, cond_false] <;> rfl)
        · refine zeKn (c := 1) rfl rfl rfl ?_
          refine zeP rfl rfl ?_
          refine zeKn (c := 1) rfl rfl rfl ?_
          refine zeCF rfl rfl rfl rfl rfl rfl (c_touched (m := (q_noThread m W t).2) (W := W) (t := (t.toNatClampNeg)) (a := (Int32.ofNat 1)) (b := (Int32.ofNat 1)) (c := (Int32.ofNat 1)) hw (by have := hw.N4; omega)) (by omega) ?_
          dsimp only [Option.toList, List.cons_append, List.nil_append]
          exact zeRe rfl rfl rfl rfl (by simp only [q_touches, h1, h2, h3, h5, cond_true, cond_false] <;> rfl) (by simp only [q_touches, h1, h2, h3, h5, cond_true, cond_false] <;> rfl)
    · refine zeKn (c := 1) rfl rfl rfl ?_
      refine zeP rfl rfl ?_
      refine zeKn (c := 2) rfl rfl rfl ?_
      refine zeCF rfl rfl rfl rfl rfl rfl (c_thr1 (m := (q_noThread m W t).2) (W := W) (c := 2) ) (by omega) ?_
      dsimp only [Option.toList, List.cons_append, List.nil_append]
      refine zeF1 rfl rfl (show zc1 .eq (Int32.ofNat 1) = false by decide) ?_
      refine zeKn (c := 0) rfl rfl rfl ?_
      refine zeP rfl rfl ?_
      exact zeRe rfl rfl rfl rfl (by simp only [q_touches, h1, h2, cond_true, cond_false] <;> rfl) (by simp only [q_touches, h1, h2, cond_true, cond_false] <;> rfl)
theorem c_touches {σ : Nat → Nat × (Nat → Int32)} {yy : (Nat → Nat → Int64) × Bool × Nat × Nat} {m : Nat → Nat → Int32} {W : Nat → Int32} {t : Int32} {x : Int32} (hw : WG W) : zF σ 5 1895 [.ref 137, .int t, .int x] (zS1, zrow m 138 W, yy) (.inl (some (.int (q_touches m W t x).1))) (zS1, zrow ((q_touches m W t x).2) 138 W, yy) := by
  intro d hd
  obtain ⟨d, rfl⟩ : ∃ k, d = k + 1 := ⟨d - 1, by omega⟩
  exact p_touches hd hw
noncomputable def q_rivals (m : Nat → Nat → Int32) (W : Nat → Int32) (t : Int32) (u : Int32) : Int32 × (Nat → Nat → Int32) := (bif zc1 .eq (q_in t ((Int32.ofNat 0)) (((q_threads W) - (Int32.ofNat 1)))) then ((Int32.ofNat 0), (q_thr1 ((zm2 m 137 0 (Int32.ofNat 0))) 1).2) else (bif zc1 .ne (q_in u ((Int32.ofNat 0)) (((q_threads W) - (Int32.ofNat 1)))) then (bif zc2 .ne t u then ((((q_touched W ((t.toNatClampNeg)) ((Int32.ofNat 1)) ((Int32.ofNat 0)) ((Int32.ofNat 0))) &&& (q_touched W ((u.toNatClampNeg)) ((Int32.ofNat 1)) ((Int32.ofNat 1)) ((Int32.ofNat 0)))) ||| ((q_touched W ((u.toNatClampNeg)) ((Int32.ofNat 1)) ((Int32.ofNat 0)) ((Int32.ofNat 0))) &&& (q_touched W ((t.toNatClampNeg)) ((Int32.ofNat 1)) ((Int32.ofNat 1)) ((Int32.ofNat 0))))), (zm2 m 137 0 (Int32.ofNat 0))) else ((Int32.ofNat 0), (q_thr1 ((zm2 m 137 0 (Int32.ofNat 0))) 2).2)) else ((Int32.ofNat 0), (q_thr1 ((zm2 m 137 0 (Int32.ofNat 0))) 1).2)))
theorem p_rivals {σ : Nat → Nat × (Nat → Int32)} {yy : (Nat → Nat → Int64) × Bool × Nat × Nat} {m : Nat → Nat → Int32} {W : Nat → Int32} {t : Int32} {u : Int32} {d : Nat} (hd : 5 ≤ d + 1) (hw : WG W) : zEv σ (d + 1) 1896 0 [some (.ref 137), some (.int t), some (.int u)] [] (zS1, zrow m 138 W, yy) (.inl (some (.int (q_rivals m W t u).1))) (zS1, zrow ((q_rivals m W t u).2) 138 W, yy) := by
  refine zeP rfl rfl ?_
  refine zeKn (c := 0) rfl rfl rfl ?_
  refine zeFP rfl rfl rfl ?_
  refine zeP rfl rfl ?_
  refine zeP rfl rfl ?_
  refine zeKn (c := 0) rfl rfl rfl ?_
  refine zeP rfl rfl ?_
  refine zeCF rfl rfl rfl rfl rfl rfl (c_threads (m := (zm2 m 137 0 (Int32.ofNat 0))) (W := W)  ) (by omega) ?_
  dsimp only [Option.toList, List.cons_append, List.nil_append]
  refine zeKn (c := 1) rfl rfl rfl ?_
  refine zeP rfl rfl ?_
  refine zeCF rfl rfl rfl rfl rfl rfl (c_in (m := (zm2 m 137 0 (Int32.ofNat 0))) (W := W) (v := t) (lo := (Int32.ofNat 0)) (hi := ((q_threads W) - (Int32.ofNat 1))) ) (by omega) ?_
  dsimp only [Option.toList, List.cons_append, List.nil_append]
  refine zeB1 rfl rfl (fun h1 => ?_) (fun h1 => ?_)
  · refine zeKn (c := 1) rfl rfl rfl ?_
    refine zeP rfl rfl ?_
    refine zeKn (c := 1) rfl rfl rfl ?_
    refine zeCF rfl rfl rfl rfl rfl rfl (c_thr1 (m := (zm2 m 137 0 (Int32.ofNat 0))) (W := W) (c := 1) ) (by omega) ?_
    dsimp only [Option.toList, List.cons_append, List.nil_append]
    refine zeT1 rfl rfl (show zc1 .ne (Int32.ofNat 1) = true by decide) ?_
    refine zeKn (c := 0) rfl rfl rfl ?_
    exact zeRe rfl rfl rfl rfl (by simp only [q_rivals, h1, cond_true, cond_false] <;> rfl) (by simp only [q_rivals, h1, cond_true, cond_false] <;> rfl)
  · refine zeP rfl rfl ?_
    refine zeKn (c := 0) rfl rfl rfl ?_
    refine zeP rfl rfl ?_
    refine zeCF rfl rfl rfl rfl rfl rfl (c_threads (m := (zm2 m 137 0 (Int32.ofNat 0))) (W := W)  ) (by omega) ?_
    dsimp only [Option.toList, List.cons_append, List.nil_append]
    refine zeKn (c := 1) rfl rfl rfl ?_
    refine zeP rfl rfl ?_
    refine zeCF rfl rfl rfl rfl rfl rfl (c_in (m := (zm2 m 137 0 (Int32.ofNat 0))) (W := W) (v := u) (lo := (Int32.ofNat 0)) (hi := ((q_threads W) - (Int32.ofNat 1))) ) (by omega) ?_
    dsimp only [Option.toList, List.cons_append, List.nil_append]
    refine zeB1 rfl rfl (fun h2 => ?_) (fun h2 => ?_)
    · refine zeKn (c := 0) rfl rfl rfl ?_
      refine zeKn (c := 1) rfl rfl rfl ?_
      refine zeCF rfl rfl rfl rfl rfl rfl (c_thr0 (m := (zm2 m 137 0 (Int32.ofNat 0))) (W := W) (c := 1) ) (by omega) ?_
      dsimp only [Option.toList, List.cons_append, List.nil_append]
      refine zeF1 rfl rfl (show zc1 .ne (Int32.ofNat 0) = false by decide) ?_
      refine zeP rfl rfl ?_
      refine zeP rfl rfl ?_
      refine zeP rfl rfl ?_
      refine zeB2 rfl rfl (fun h3 => ?_) (fun h3 => ?_)
      · refine zeKn (c := 0) rfl rfl rfl ?_
        refine zeKn (c := 2) rfl rfl rfl ?_
        refine zeCF rfl rfl rfl rfl rfl rfl (c_thr0 (m := (zm2 m 137 0 (Int32.ofNat 0))) (W := W) (c := 2) ) (by omega) ?_
        dsimp only [Option.toList, List.cons_append, List.nil_append]
        refine zeT1 rfl rfl (show zc1 .eq (Int32.ofNat 0) = true by decide) ?_
        have ct : t = Int32.ofNat t.toNatClampNeg ∧ t.toNatClampNeg < nv W 9 := (in_N hw.N hw.N4 (zne (by assumption)))
        have cu : u = Int32.ofNat u.toNatClampNeg ∧ u.toNatClampNeg < nv W 9 := (in_N hw.N hw.N4 (by assumption))
        refine zeP rfl rfl ?_
        refine zeKn (c := t.toNatClampNeg) rfl rfl ct.1 ?_
        refine zeKn (c := 1) rfl rfl rfl ?_
        refine zeKn (c := 0) rfl rfl rfl ?_
        refine zeKn (c := 0) rfl rfl rfl ?_
        refine zeCF rfl rfl rfl rfl rfl rfl (c_touched (m := (zm2 m 137 0 (Int32.ofNat 0))) (W := W) (t := (t.toNatClampNeg)) (a := (Int32.ofNat 1)) (b := (Int32.ofNat 0)) (c := (Int32.ofNat 0)) hw (by have := hw.N4; omega)) (by omega) ?_
        dsimp only [Option.toList, List.cons_append, List.nil_append]
        refine zeP rfl rfl ?_
        refine zeKn (c := u.toNatClampNeg) rfl rfl cu.1 ?_
        refine zeKn (c := 1) rfl rfl rfl ?_
        refine zeKn (c := 1) rfl rfl rfl ?_
        refine zeKn (c := 0) rfl rfl rfl ?_
        refine zeCF rfl rfl rfl rfl rfl rfl (c_touched (m := (zm2 m 137 0 (Int32.ofNat 0))) (W := W) (t := (u.toNatClampNeg)) (a := (Int32.ofNat 1)) (b := (Int32.ofNat 1)) (c := (Int32.ofNat 0)) hw (by have := hw.N4; omega)) (by omega) ?_
        dsimp only [Option.toList, List.cons_append, List.nil_append]
        refine zeP rfl rfl ?_
        refine zeP rfl rfl ?_
        refine zeKn (c := u.toNatClampNeg) rfl rfl cu.1 ?_
        refine zeKn (c := 1) rfl rfl rfl ?_
        refine zeKn (c := 0) rfl rfl rfl ?_
        refine zeKn (c := 0) rfl rfl rfl ?_
        refine zeCF rfl rfl rfl rfl rfl rfl (c_touched (m := (zm2 m 137 0 (Int32.ofNat 0))) (W := W) (t := (u.toNatClampNeg)) (a := (Int32.ofNat 1)) (b := (Int32.ofNat 0)) (c := (Int32.ofNat 0)) hw (by have := hw.N4; omega)) (by omega) ?_
        dsimp only [Option.toList, List.cons_append, List.nil_append]
        refine zeP rfl rfl ?_
        refine zeKn (c := t.toNatClampNeg) rfl rfl ct.1 ?_
        refine zeKn (c := 1) rfl rfl rfl ?_
        refine zeKn (c := 1) rfl rfl rfl ?_
        refine zeKn (c := 0) rfl rfl rfl ?_
        refine zeCF rfl rfl rfl rfl rfl rfl (c_touched (m := (zm2 m 137 0 (Int32.ofNat 0))) (W := W) (t := (t.toNatClampNeg)) (a := (Int32.ofNat 1)) (b := (Int32.ofNat 1)) (c := (Int32.ofNat 0)) hw (by have := hw.N4; omega)) (by omega) ?_
        dsimp only [Option.toList, List.cons_append, List.nil_append]
        refine zeP rfl rfl ?_
        refine zeP rfl rfl ?_
        exact zeRe rfl rfl rfl rfl (by simp only [q_rivals, h1, h2, h3, cond_true, cond_false] <;> rfl) (by simp only [q_rivals, h1, h2, h3, cond_true, cond_false] <;> rfl)
      · refine zeKn (c := 1) rfl rfl rfl ?_
        refine zeP rfl rfl ?_
        refine zeKn (c := 2) rfl rfl rfl ?_
        refine zeCF rfl rfl rfl rfl rfl rfl (c_thr1 (m := (zm2 m 137 0 (Int32.ofNat 0))) (W := W) (c := 2) ) (by omega) ?_
        dsimp only [Option.toList, List.cons_append, List.nil_append]
        refine zeF1 rfl rfl (show zc1 .eq (Int32.ofNat 1) = false by decide) ?_
        refine zeKn (c := 0) rfl rfl rfl ?_
        exact zeRe rfl rfl rfl rfl (by simp only [q_rivals, h1, h2, h3, cond_true, cond_false] <;> rfl) (by simp only [q_rivals, h1, h2, h3, cond_true, cond_false] <;> rfl)
    · refine zeKn (c := 1) rfl rfl rfl ?_
      refine zeP rfl rfl ?_
      refine zeKn (c := 1) rfl rfl rfl ?_
      refine zeCF rfl rfl rfl rfl rfl rfl (c_thr1 (m := (zm2 m 137 0 (Int32.ofNat 0))) (W := W) (c := 1) ) (by omega) ?_
      dsimp only [Option.toList, List.cons_append, List.nil_append]
      refine zeT1 rfl rfl (show zc1 .ne (Int32.ofNat 1) = true by decide) ?_
      refine zeKn (c := 0) rfl rfl rfl ?_
      exact zeRe rfl rfl rfl rfl (by simp only [q_rivals, h1, h2, cond_true, cond_false] <;> rfl) (by simp only [q_rivals, h1, h2, cond_true, cond_false] <;> rfl)
theorem c_rivals {σ : Nat → Nat × (Nat → Int32)} {yy : (Nat → Nat → Int64) × Bool × Nat × Nat} {m : Nat → Nat → Int32} {W : Nat → Int32} {t : Int32} {u : Int32} (hw : WG W) : zF σ 5 1896 [.ref 137, .int t, .int u] (zS1, zrow m 138 W, yy) (.inl (some (.int (q_rivals m W t u).1))) (zS1, zrow ((q_rivals m W t u).2) 138 W, yy) := by
  intro d hd
  obtain ⟨d, rfl⟩ : ∃ k, d = k + 1 := ⟨d - 1, by omega⟩
  exact p_rivals hd hw
noncomputable def q_heldBehind (W : Nat → Int32) (t : Nat) (p : Nat) (h : Int32) : Int32 := (bif zc1 .ne (q_deedOf W t p 0) then (bif zc2 .ne (q_deedOf W t p 0) (Int32.ofNat 1) then h else (h &&& (((Int32.ofNat 1) <<< ((q_deedOf W t p 1) &&& 31)) ^^^ (-1)))) else (h ||| ((Int32.ofNat 1) <<< ((q_deedOf W t p 1) &&& 31))))
theorem p_heldBehind {σ : Nat → Nat × (Nat → Int32)} {yy : (Nat → Nat → Int64) × Bool × Nat × Nat} {m : Nat → Nat → Int32} {W : Nat → Int32} {t : Nat} {p : Nat} {h : Int32} {d : Nat} (hd : 4 ≤ d + 1) (hp : 376 + 103 * t + (55 + 2 * p + 1) < 788) : zEv σ (d + 1) 1897 0 [some (.ref 137), some (.int (Int32.ofNat t)), some (.int (Int32.ofNat p)), some (.int h), none, none] [] (zS1, zrow m 138 W, yy) (.inl (some (.int (q_heldBehind W t p h)))) (zS1, zrow m 138 W, yy) := by
  refine zeP rfl rfl ?_
  refine zeP rfl rfl ?_
  refine zeP rfl rfl ?_
  refine zeKn (c := 0) rfl rfl rfl ?_
  refine zeCF rfl rfl rfl rfl rfl rfl (c_deedOf (m := m) (W := W) (t := t) (p := p) (k := 0) (by first | assumption | omega)) (by omega) ?_
  dsimp only [Option.toList, List.cons_append, List.nil_append]
  refine zeP rfl rfl ?_
  refine zeP rfl rfl ?_
  refine zeP rfl rfl ?_
  refine zeP rfl rfl ?_
  refine zeKn (c := 1) rfl rfl rfl ?_
  refine zeCF rfl rfl rfl rfl rfl rfl (c_deedOf (m := m) (W := W) (t := t) (p := p) (k := 1) (by first | assumption | omega)) (by omega) ?_
  dsimp only [Option.toList, List.cons_append, List.nil_append]
  refine zeP rfl rfl ?_
  refine zeP rfl rfl ?_
  refine zeB1 rfl rfl (fun h1 => ?_) (fun h1 => ?_)
  · refine zeP rfl rfl ?_
    refine zeKn (c := 1) rfl rfl rfl ?_
    refine zeB2 rfl rfl (fun h2 => ?_) (fun h2 => ?_)
    · refine zeP rfl rfl ?_
      exact zeRe rfl rfl rfl rfl (by simp only [q_heldBehind, h1, h2, cond_true, cond_false] <;> rfl) (by simp only [q_heldBehind, h1, h2, cond_true, cond_false] <;> rfl)
    · refine zeP rfl rfl ?_
      refine zeKn (c := 1) rfl rfl rfl ?_
      refine zeP rfl rfl ?_
      refine zeP rfl rfl ?_
      refine zeK (v := -1) rfl rfl rfl ?_
      refine zeP rfl rfl ?_
      refine zeP rfl rfl ?_
      refine zeP rfl rfl ?_
      exact zeRe rfl rfl rfl rfl (by simp only [q_heldBehind, h1, h2, cond_true, cond_false] <;> rfl) (by simp only [q_heldBehind, h1, h2, cond_true, cond_false] <;> rfl)
  · refine zeP rfl rfl ?_
    refine zeKn (c := 1) rfl rfl rfl ?_
    refine zeP rfl rfl ?_
    refine zeP rfl rfl ?_
    refine zeP rfl rfl ?_
    refine zeP rfl rfl ?_
    exact zeRe rfl rfl rfl rfl (by simp only [q_heldBehind, h1, cond_true, cond_false] <;> rfl) (by simp only [q_heldBehind, h1, cond_true, cond_false] <;> rfl)
theorem c_heldBehind {σ : Nat → Nat × (Nat → Int32)} {yy : (Nat → Nat → Int64) × Bool × Nat × Nat} {m : Nat → Nat → Int32} {W : Nat → Int32} {t : Nat} {p : Nat} {h : Int32} (hp : 376 + 103 * t + (55 + 2 * p + 1) < 788) : zF σ 4 1897 [.ref 137, .int (Int32.ofNat t), .int (Int32.ofNat p), .int h] (zS1, zrow m 138 W, yy) (.inl (some (.int (q_heldBehind W t p h)))) (zS1, zrow m 138 W, yy) := by
  intro d hd
  obtain ⟨d, rfl⟩ : ∃ k, d = k + 1 := ⟨d - 1, by omega⟩
  exact p_heldBehind hd hp
noncomputable def l_nest (W : Nat → Int32) (t : Nat) : Nat → Int32 → Int32 → Nat → Int32
  | 0, h, b, k => b
  | n + 1, h, b, k => (l_nest W t n ((q_heldBehind W t k h)) ((if b < (q_bits ((q_heldBehind W t k h))) then (q_bits ((q_heldBehind W t k h))) else b)) ((k + 1)))
theorem w_nest {σ : Nat → Nat × (Nat → Int32)} {yy : (Nat → Nat → Int64) × Bool × Nat × Nat} {m : Nat → Nat → Int32} {W : Nat → Int32} {t : Nat} {d : Nat} (hd : 5 ≤ d + 1) (hw : WG W) (ht : t < 4) (h24 : nv W (376 + 103 * t + 22) ≤ 24) : ∀ (n : Nat) (h : Int32) (b : Int32) (k : Nat), k + n = nv W (376 + 103 * t + 22) → zEv σ (d + 1) 1898 17 [some (.ref 137), some (.int (Int32.ofNat t)), some (.int h), some (.int b), some (.int (Int32.ofNat k))] [] (zS1, zrow m 138 W, yy) (.inl (some (.int (l_nest W t n h b k)))) (zS1, zrow m 138 W, yy) := by
  intro n
  induction n with
  | zero =>
    intro h b k hk
    refine zeP rfl rfl ?_
    refine zeP rfl rfl ?_
    refine zeP rfl rfl ?_
    refine zeKn (c := 22) rfl rfl rfl ?_
    refine zeCF rfl rfl rfl rfl rfl rfl (c_of (m := m) (W := W) (t := t) (k := 22) (by first | assumption | omega)) (by omega) ?_
    dsimp only [Option.toList, List.cons_append, List.nil_append]
    rw [show q_of W t 22 = Int32.ofNat (nv W (376 + 103 * t + 22)) from (hw.2 t ht).2.2.2.1.1]
    refine zeT2 rfl rfl (zcge (by omega) (by omega) (by omega)) ?_
    refine zeP rfl rfl ?_
    exact zeRe rfl rfl rfl rfl (by rfl) (by rfl)
  | succ n ih =>
    intro h b k hk
    refine zeP rfl rfl ?_
    refine zeP rfl rfl ?_
    refine zeP rfl rfl ?_
    refine zeKn (c := 22) rfl rfl rfl ?_
    refine zeCF rfl rfl rfl rfl rfl rfl (c_of (m := m) (W := W) (t := t) (k := 22) (by first | assumption | omega)) (by omega) ?_
    dsimp only [Option.toList, List.cons_append, List.nil_append]
    rw [show q_of W t 22 = Int32.ofNat (nv W (376 + 103 * t + 22)) from (hw.2 t ht).2.2.2.1.1]
    refine zeF2 rfl rfl (zcge_f (by omega) (by omega) (by omega)) ?_
    refine zeP rfl rfl ?_
    refine zeP rfl rfl ?_
    refine zeP rfl rfl ?_
    refine zeP rfl rfl ?_
    refine zeCF rfl rfl rfl rfl rfl rfl (c_heldBehind (m := m) (W := W) (t := t) (p := k) (h := h) (by first | assumption | omega)) (by omega) ?_
    dsimp only [Option.toList, List.cons_append, List.nil_append]
    refine zeP rfl rfl ?_
    refine zeP rfl rfl ?_
    refine zeP rfl rfl ?_
    refine zeCF rfl rfl rfl rfl rfl rfl (c_bits (m := m) (W := W) (s := (q_heldBehind W t k h)) ) (by omega) ?_
    dsimp only [Option.toList, List.cons_append, List.nil_append]
    refine zeM rfl rfl rfl rfl rfl rfl rfl ?_
    refine zeP rfl rfl ?_
    refine zeInc rfl rfl ?_
    refine zeP rfl rfl ?_
    simp only [l_nest, cond_true, cond_false]
    exact ih ((q_heldBehind W t k h)) ((if b < (q_bits ((q_heldBehind W t k h))) then (q_bits ((q_heldBehind W t k h))) else b)) ((k + 1))   (by omega) 
noncomputable def q_nest (m : Nat → Nat → Int32) (W : Nat → Int32) (t : Int32) : Int32 × (Nat → Nat → Int32) := (bif zc1 .eq (q_noThread m W t).1 then ((l_nest W ((t.toNatClampNeg)) ((nv W (376 + 103 * t.toNatClampNeg + 22))) ((Int32.ofNat 0)) ((Int32.ofNat 0)) 0), (q_noThread m W t).2) else ((Int32.ofNat 0), (q_noThread m W t).2))
theorem p_nest {σ : Nat → Nat × (Nat → Int32)} {yy : (Nat → Nat → Int64) × Bool × Nat × Nat} {m : Nat → Nat → Int32} {W : Nat → Int32} {t : Int32} {d : Nat} (hd : 5 ≤ d + 1) (hw : WG W) : zEv σ (d + 1) 1898 0 [some (.ref 137), some (.int t), none, none, none] [] (zS1, zrow m 138 W, yy) (.inl (some (.int (q_nest m W t).1))) (zS1, zrow ((q_nest m W t).2) 138 W, yy) := by
  refine zeP rfl rfl ?_
  refine zeP rfl rfl ?_
  refine zeCF rfl rfl rfl rfl rfl rfl (c_noThread (m := m) (W := W) (t := t) ) (by omega) ?_
  dsimp only [Option.toList, List.cons_append, List.nil_append]
  refine zeB1 rfl rfl (fun h1 => ?_) (fun h1 => ?_)
  · have ct : t = Int32.ofNat t.toNatClampNeg ∧ t.toNatClampNeg < nv W 9 := (nT_in hw (zneF (by assumption)))
    refine zeKn (c := 0) rfl rfl rfl ?_
    refine zeP rfl rfl ?_
    refine zeKn (c := 0) rfl rfl rfl ?_
    refine zeP rfl rfl ?_
    refine zeKn (c := 0) rfl rfl rfl ?_
    refine zeP rfl rfl ?_
    simp only [q_nest, h1, cond_true, cond_false]
    have ez := w_nest (t := (t.toNatClampNeg)) (W := W) (m := (q_noThread m W t).2) (σ := σ) (yy := yy) (d := d) (by omega) hw (by have := hw.N4; omega) (hw.2 _ (by have := hw.N4; omega)).2.2.2.1.2.2 ((nv W (376 + 103 * t.toNatClampNeg + 22))) ((Int32.ofNat 0)) ((Int32.ofNat 0)) (0)   (by omega) 
    rw [← ct.1] at ez
    exact ez
  · refine zeKn (c := 0) rfl rfl rfl ?_
    exact zeRe rfl rfl rfl rfl (by simp only [q_nest, h1, cond_true, cond_false] <;> rfl) (by simp only [q_nest, h1, cond_true, cond_false] <;> rfl)
theorem c_nest {σ : Nat → Nat × (Nat → Int32)} {yy : (Nat → Nat → Int64) × Bool × Nat × Nat} {m : Nat → Nat → Int32} {W : Nat → Int32} {t : Int32} (hw : WG W) : zF σ 5 1898 [.ref 137, .int t] (zS1, zrow m 138 W, yy) (.inl (some (.int (q_nest m W t).1))) (zS1, zrow ((q_nest m W t).2) 138 W, yy) := by
  intro d hd
  obtain ⟨d, rfl⟩ : ∃ k, d = k + 1 := ⟨d - 1, by omega⟩
  exact p_nest hd hw
noncomputable def l_behindPart (W : Nat → Int32) (t : Nat) : Nat → Int32 → Nat → Int32
  | 0, h, k => (Int32.ofNat (k + 1))
  | n + 1, h, k => (bif zc1 .ne (q_heldBehind W t k h) then (l_behindPart W t n ((q_heldBehind W t k h)) ((k + 1))) else (Int32.ofNat (k + 1)))
theorem w_behindPart {σ : Nat → Nat × (Nat → Int32)} {yy : (Nat → Nat → Int64) × Bool × Nat × Nat} {m : Nat → Nat → Int32} {W : Nat → Int32} {t : Nat} {d : Nat} (hd : 5 ≤ d + 1) (hw : WG W) (ht : t < 4) (h24 : nv W (376 + 103 * t + 22) ≤ 24) (h1 : 1 ≤ nv W (376 + 103 * t + 22)) : ∀ (n : Nat) (x2 : Option Value) (h : Int32) (k : Nat), k + n = nv W (376 + 103 * t + 22) - 1 → zEv σ (d + 1) 1899 5 [some (.ref 137), some (.int (Int32.ofNat t)), x2, some (.int h), some (.int (Int32.ofNat k))] [] (zS1, zrow m 138 W, yy) (.inl (some (.int (l_behindPart W t n h k)))) (zS1, zrow m 138 W, yy) := by
  intro n
  induction n with
  | zero =>
    intro x2 h k hk
    refine zeP rfl rfl ?_
    refine zeP rfl rfl ?_
    refine zeP rfl rfl ?_
    refine zeP rfl rfl ?_
    refine zeCF rfl rfl rfl rfl rfl rfl (c_heldBehind (m := m) (W := W) (t := t) (p := k) (h := h) (by first | assumption | omega)) (by omega) ?_
    dsimp only [Option.toList, List.cons_append, List.nil_append]
    refine zeP rfl rfl ?_
    refine zeInc rfl rfl ?_
    refine zeP rfl rfl ?_
    refine zeP rfl rfl ?_
    refine zeP rfl rfl ?_
    refine zeKn (c := 22) rfl rfl rfl ?_
    refine zeCF rfl rfl rfl rfl rfl rfl (c_of (m := m) (W := W) (t := t) (k := 22) (by first | assumption | omega)) (by omega) ?_
    dsimp only [Option.toList, List.cons_append, List.nil_append]
    rw [show q_of W t 22 = Int32.ofNat (nv W (376 + 103 * t + 22)) from (hw.2 t ht).2.2.2.1.1]
    refine zeT2 rfl rfl (zcge (by omega) (by omega) (by omega)) ?_
    refine zeP rfl rfl ?_
    exact zeRe rfl rfl rfl rfl (by rfl) (by rfl)
  | succ n ih =>
    intro x2 h k hk
    refine zeP rfl rfl ?_
    refine zeP rfl rfl ?_
    refine zeP rfl rfl ?_
    refine zeP rfl rfl ?_
    refine zeCF rfl rfl rfl rfl rfl rfl (c_heldBehind (m := m) (W := W) (t := t) (p := k) (h := h) (by first | assumption | omega)) (by omega) ?_
    dsimp only [Option.toList, List.cons_append, List.nil_append]
    refine zeP rfl rfl ?_
    refine zeInc rfl rfl ?_
    refine zeP rfl rfl ?_
    refine zeP rfl rfl ?_
    refine zeP rfl rfl ?_
    refine zeKn (c := 22) rfl rfl rfl ?_
    refine zeCF rfl rfl rfl rfl rfl rfl (c_of (m := m) (W := W) (t := t) (k := 22) (by first | assumption | omega)) (by omega) ?_
    dsimp only [Option.toList, List.cons_append, List.nil_append]
    rw [show q_of W t 22 = Int32.ofNat (nv W (376 + 103 * t + 22)) from (hw.2 t ht).2.2.2.1.1]
    refine zeF2 rfl rfl (zcge_f (by omega) (by omega) (by omega)) ?_
    refine zeP rfl rfl ?_
    refine zeB1 rfl rfl (fun h1 => ?_) (fun h1 => ?_)
    · simp only [l_behindPart, h1, cond_true, cond_false]
      exact ih (x2) ((q_heldBehind W t k h)) ((k + 1))   (by omega) 
    · refine zeP rfl rfl ?_
      exact zeRe rfl rfl rfl rfl (by simp only [l_behindPart, h1, cond_true, cond_false] <;> rfl) (by simp only [l_behindPart, h1, cond_true, cond_false] <;> rfl)
noncomputable def q_behindPart (W : Nat → Int32) (t : Nat) (p : Nat) : Int32 := (l_behindPart W t ((nv W (376 + 103 * t + 22) - 1 - p)) ((Int32.ofNat 0)) p)
theorem p_behindPart {σ : Nat → Nat × (Nat → Int32)} {yy : (Nat → Nat → Int64) × Bool × Nat × Nat} {m : Nat → Nat → Int32} {W : Nat → Int32} {t : Nat} {p : Nat} {d : Nat} (hd : 5 ≤ d + 1) (hw : WG W) (ht : t < 4) (hp : p < nv W (376 + 103 * t + 22)) : zEv σ (d + 1) 1899 0 [some (.ref 137), some (.int (Int32.ofNat t)), some (.int (Int32.ofNat p)), none, none] [] (zS1, zrow m 138 W, yy) (.inl (some (.int (q_behindPart W t p)))) (zS1, zrow m 138 W, yy) := by
  refine zeKn (c := 0) rfl rfl rfl ?_
  refine zeP rfl rfl ?_
  refine zeP rfl rfl ?_
  refine zeP rfl rfl ?_
  simp only [q_behindPart, cond_true, cond_false]
  exact w_behindPart (t := t) (W := W) (m := m) (by omega) hw ht (hw.2 t ht).2.2.2.1.2.2 (by omega) ((nv W (376 + 103 * t + 22) - 1 - p)) (some (.int (Int32.ofNat p))) ((Int32.ofNat 0)) (p)   (by omega) 
theorem c_behindPart {σ : Nat → Nat × (Nat → Int32)} {yy : (Nat → Nat → Int64) × Bool × Nat × Nat} {m : Nat → Nat → Int32} {W : Nat → Int32} {t : Nat} {p : Nat} (hw : WG W) (ht : t < 4) (hp : p < nv W (376 + 103 * t + 22)) : zF σ 5 1899 [.ref 137, .int (Int32.ofNat t), .int (Int32.ofNat p)] (zS1, zrow m 138 W, yy) (.inl (some (.int (q_behindPart W t p)))) (zS1, zrow m 138 W, yy) := by
  intro d hd
  obtain ⟨d, rfl⟩ : ∃ k, d = k + 1 := ⟨d - 1, by omega⟩
  exact p_behindPart hd hw ht hp
