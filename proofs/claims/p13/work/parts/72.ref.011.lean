noncomputable def l_dueOfX : Nat → Nat → (Nat → Int32) → (Nat → Nat → Int32) → Int32 × (Nat → Int32) × (Nat → Nat → Int32)
  | 0, k, W, m => ((-1), W, m)
  | n + 1, k, W, m => (bif zc1 .eq (q_areAllDone W) then (bif zc2 .ge (Int32.ofNat k) (Int32.ofNat 400) then (l_dueOfX n ((k + 1)) W m) else (bif zc2 .eq (W 11) (Int32.ofNat 99999) then ((-1), W, m) else (bif zc1 .ne (q_goesT m W 1).1 then (l_dueOfX n ((k + 1)) ((q_goesT m W 1).2.1) ((q_goesT m W 1).2.2)) else ((-1), (q_goesT m W 1).2.1, (q_goesT m W 1).2.2)))) else ((Int32.ofNat k), W, m))
theorem w_dueOfX {σ : Nat → Nat × (Nat → Int32)} {yy : (Nat → Nat → Int64) × Bool × Nat × Nat} {d : Nat} (hd : 11 ≤ d + 1) : ∀ (n : Nat) (k : Nat) (W : Nat → Int32) (m : Nat → Nat → Int32), k + n = 401 → WG W → LT W → zEv σ (d + 1) 1889 2 [some (.ref 137), some (.int (-1)), some (.int (Int32.ofNat k))] [] (zS1, zrow m 138 W, yy) (.inl (some (.int (l_dueOfX n k W m).1))) (zS1, zrow ((l_dueOfX n k W m).2.2) 138 ((l_dueOfX n k W m).2.1), yy) := by
  intro n
  induction n with
  | zero =>
    intro k W m hk hw hL
    refine zeP rfl rfl ?_
    refine zeKn (c := 400) rfl rfl rfl ?_
    refine zeT2 rfl rfl (zcgt (by omega) (by omega) (by omega)) ?_
    refine zeK (v := -1) rfl rfl rfl ?_
    exact zeRe rfl rfl rfl rfl (by rfl) (by rfl)
  | succ n ih =>
    intro k W m hk hw hL
    refine zeP rfl rfl ?_
    refine zeKn (c := 400) rfl rfl rfl ?_
    refine zeF2 rfl rfl (zcgt_f (by omega) (by omega) (by omega)) ?_
    refine zeP rfl rfl ?_
    refine zeK (v := -1) rfl rfl rfl ?_
    refine zeF2 rfl rfl (show zc2 .ne (-1) (-1) = false by decide) ?_
    refine zeP rfl rfl ?_
    refine zeCF rfl rfl rfl rfl rfl rfl (c_areAllDone (m := m) (W := W)  hw.N hw.N4) (by omega) ?_
    dsimp only [Option.toList, List.cons_append, List.nil_append]
    refine zeB1 rfl rfl (fun h1 => ?_) (fun h1 => ?_)
    · refine zeP rfl rfl ?_
      refine zeKn (c := 400) rfl rfl rfl ?_
      refine zeB2 rfl rfl (fun h2 => ?_) (fun h2 => ?_)
      · refine zeInc rfl rfl ?_
        refine zeP rfl rfl ?_
        simp only [l_dueOfX, h1, h2, cond_true, cond_false]
        exact ih ((k + 1)) W m (by omega) (by first | exact hw | exact (goesT_ok _ _ _ _ hw hL).1) (by first | exact hL | exact (goesT_ok _ _ _ _ hw hL).2)
      · refine zeP rfl rfl ?_
        refine zeGR rfl rfl zS137 rfl rfl ?_
        refine zeKn (c := 11) rfl rfl rfl ?_
        refine zeWL (k := 11) rfl (by omega) ?_
        refine zeKn (c := 99999) rfl rfl rfl ?_
        refine zeB2 rfl rfl (fun h3 => ?_) (fun h3 => ?_)
        · refine zeK (v := -1) rfl rfl rfl ?_
          exact zeRe rfl rfl rfl rfl (by simp only [l_dueOfX, h1, h2, h3, cond_true, cond_false] <;> rfl) (by simp only [l_dueOfX, h1, h2, h3, cond_true, cond_false] <;> rfl)
        · refine zeP rfl rfl ?_
          refine zeKn (c := 1) rfl rfl rfl ?_
          refine zeKn (c := 0) rfl rfl rfl ?_
          refine zeCF rfl rfl rfl rfl rfl rfl (c_goesT (m := m) (W := W) (q := 1) (by omega) hw hL) (by omega) ?_
          dsimp only [Option.toList, List.cons_append, List.nil_append]
          refine zeB1 rfl rfl (fun h4 => ?_) (fun h4 => ?_)
          · refine zeInc rfl rfl ?_
            refine zeP rfl rfl ?_
            simp only [l_dueOfX, h1, h2, h3, h4, cond_true, cond_false]
            exact ih ((k + 1)) ((q_goesT m W 1).2.1) ((q_goesT m W 1).2.2) (by omega) (by first | exact hw | exact (goesT_ok _ _ _ _ hw hL).1) (by first | exact hL | exact (goesT_ok _ _ _ _ hw hL).2)
          · refine zeK (v := -1) rfl rfl rfl ?_
            exact zeRe rfl rfl rfl rfl (by simp only [l_dueOfX, h1, h2, h3, h4, cond_true, cond_false] <;> rfl) (by simp only [l_dueOfX, h1, h2, h3, h4, cond_true, cond_false] <;> rfl)
    · refine zeP rfl rfl ?_
      refine zeP rfl rfl ?_
      exact zeRe rfl rfl rfl rfl (by simp only [l_dueOfX, h1, cond_true, cond_false] <;> rfl) (by simp only [l_dueOfX, h1, cond_true, cond_false] <;> rfl)
