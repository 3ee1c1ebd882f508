noncomputable def l_fellOf (W : Nat → Int32) (t : Nat) : Nat → Int32 → Nat → Int32
  | 0, c, k => c
  | n + 1, c, k => (l_fellOf W t n ((c + (q_of W t ((5 + k))))) ((k + 1)))
theorem w_fellOf {σ : Nat → Nat × (Nat → Int32)} {yy : (Nat → Nat → Int64) × Bool × Nat × Nat} {m : Nat → Nat → Int32} {W : Nat → Int32} {t : Nat} {d : Nat} (hd : 3 ≤ d + 1) (ht : t < 4) : ∀ (n : Nat) (c : Int32) (k : Nat), k + n = 5 → zEv σ (d + 1) 1871 4 [some (.ref 137), some (.int (Int32.ofNat t)), some (.int c), some (.int (Int32.ofNat k))] [] (zS1, zrow m 138 W, yy) (.inl (some (.int (l_fellOf W t n c k)))) (zS1, zrow m 138 W, yy) := by
  intro n
  induction n with
  | zero =>
    intro c k hk
    refine zeP rfl rfl ?_
    refine zeKn (c := 5) rfl rfl rfl ?_
    refine zeT2 rfl rfl (zcge (by first | exact zq_adn (by decide) | exact zq_adr (zq_adn (by decide)) | omega) (by first | exact zq_adn (by decide) | exact zq_adr (zq_adn (by decide)) | omega) (by first | exact zq_adn (by decide) | exact zq_adr (zq_adn (by decide)) | omega)) ?_
    refine zeP rfl rfl ?_
    exact zeRe rfl rfl rfl rfl (by rfl) (by rfl)
  | succ n ih =>
    intro c k hk
    refine zeP rfl rfl ?_
    refine zeKn (c := 5) rfl rfl rfl ?_
    refine zeF2 rfl rfl (zcge_f (by first | exact zq_adn (by decide) | exact zq_adr (zq_adn (by decide)) | omega) (by first | exact zq_adn (by decide) | exact zq_adr (zq_adn (by decide)) | omega) (by first | exact zq_adn (by decide) | exact zq_adr (zq_adn (by decide)) | omega)) ?_
    refine zeP rfl rfl ?_
    refine zeP rfl rfl ?_
    refine zeP rfl rfl ?_
    refine zeKn (c := 5) rfl rfl rfl ?_
    refine zeP rfl rfl ?_
    refine zeAdd rfl ?_
    refine zeCF rfl rfl rfl rfl rfl rfl (c_of (m := m) (W := W) (t := t) (k := (5 + k)) (by first | assumption | omega)) (by first | exact zq_adn (by decide) | exact zq_adr (zq_adn (by decide)) | omega) ?_
    dsimp only [Option.toList, List.cons_append, List.nil_append]
    refine zeP rfl rfl ?_
    refine zeP rfl rfl ?_
    refine zeInc rfl rfl ?_
    refine zeP rfl rfl ?_
    simp only [l_fellOf, cond_true, cond_false]
    exact ih ((c + (q_of W t ((5 + k))))) ((k + 1))   (by first | exact zq_adn (by decide) | exact zq_adr (zq_adn (by decide)) | omega) 
noncomputable def q_fellOf (W : Nat → Int32) (t : Nat) : Int32 := (l_fellOf W t 5 ((Int32.ofNat 0)) 0)
theorem p_fellOf {σ : Nat → Nat × (Nat → Int32)} {yy : (Nat → Nat → Int64) × Bool × Nat × Nat} {m : Nat → Nat → Int32} {W : Nat → Int32} {t : Nat} {d : Nat} (hd : 3 ≤ d + 1) (ht : t < 4) : zEv σ (d + 1) 1871 0 [some (.ref 137), some (.int (Int32.ofNat t)), none, none] [] (zS1, zrow m 138 W, yy) (.inl (some (.int (q_fellOf W t)))) (zS1, zrow m 138 W, yy) := by
  refine zeKn (c := 0) rfl rfl rfl ?_
  refine zeP rfl rfl ?_
  refine zeKn (c := 0) rfl rfl rfl ?_
  refine zeP rfl rfl ?_
  simp only [q_fellOf, cond_true, cond_false]
  exact w_fellOf (t := t) (W := W) (m := m) (by first | exact zq_adn (by decide) | exact zq_adr (zq_adn (by decide)) | omega) (by first | assumption | omega) 5 ((Int32.ofNat 0)) (0)   (by first | exact zq_adn (by decide) | exact zq_adr (zq_adn (by decide)) | omega) 
theorem c_fellOf {σ : Nat → Nat × (Nat → Int32)} {yy : (Nat → Nat → Int64) × Bool × Nat × Nat} {m : Nat → Nat → Int32} {W : Nat → Int32} {t : Nat} (ht : t < 4) : zF σ 3 1871 [.ref 137, .int (Int32.ofNat t)] (zS1, zrow m 138 W, yy) (.inl (some (.int (q_fellOf W t)))) (zS1, zrow m 138 W, yy) := by
  intro d hd
  obtain ⟨d, rfl⟩ : ∃ k, d = k + 1 := ⟨d - 1, by omega⟩
  exact p_fellOf hd ht
noncomputable def q_thread (m : Nat → Nat → Int32) (W : Nat → Int32) (t : Int32) (x : Int32) : Int32 × (Nat → Nat → Int32) := (bif zc1 .ne (q_noThread m W t).1 then ((Int32.ofNat 0), (q_noThread m W t).2) else (bif zc1 .ne (q_in x ((Int32.ofNat 0)) ((Int32.ofNat 9))) then (bif Nat.beq ((x.toNatClampNeg)) 0 then ((q_of W ((t.toNatClampNeg)) 0), (q_noThread m W t).2) else (bif Nat.beq ((x.toNatClampNeg)) 1 then ((q_of W ((t.toNatClampNeg)) 1), (q_noThread m W t).2) else (bif Nat.beq ((x.toNatClampNeg)) 2 then ((q_of W ((t.toNatClampNeg)) 2), (q_noThread m W t).2) else (bif Nat.beq ((x.toNatClampNeg)) 3 then (bif zc1 .eq (q_isDone W ((t.toNatClampNeg))) then ((Int32.ofNat 0), (q_noThread m W t).2) else ((Int32.ofNat 1), (q_noThread m W t).2)) else (bif Nat.beq ((x.toNatClampNeg)) 4 then ((q_of W ((t.toNatClampNeg)) 3), (q_noThread m W t).2) else (bif Nat.beq ((x.toNatClampNeg)) 5 then ((q_of W ((t.toNatClampNeg)) 4), (q_noThread m W t).2) else (bif Nat.beq ((x.toNatClampNeg)) 6 then ((q_fellOf W ((t.toNatClampNeg))), (q_noThread m W t).2) else (bif Nat.beq ((x.toNatClampNeg)) 7 then ((q_of W ((t.toNatClampNeg)) 10), (q_noThread m W t).2) else (bif Nat.beq ((x.toNatClampNeg)) 8 then ((q_of W ((t.toNatClampNeg)) 22), (q_noThread m W t).2) else ((q_of W ((t.toNatClampNeg)) 21), (q_noThread m W t).2)))))))))) else ((Int32.ofNat 0), (q_thr1 ((q_noThread m W t).2) 2).2)))
theorem p_thread {σ : Nat → Nat × (Nat → Int32)} {yy : (Nat → Nat → Int64) × Bool × Nat × Nat} {m : Nat → Nat → Int32} {W : Nat → Int32} {t : Int32} {x : Int32} {d : Nat} (hd : 4 ≤ d + 1) (hw : WG W) : zEv σ (d + 1) 1872 0 [some (.ref 137), some (.int t), some (.int x)] [] (zS1, zrow m 138 W, yy) (.inl (some (.int (q_thread m W t x).1))) (zS1, zrow ((q_thread m W t x).2) 138 W, yy) := by
  refine zeP rfl rfl ?_
  refine zeP rfl rfl ?_
  refine zeCF rfl rfl rfl rfl rfl rfl (c_noThread (m := m) (W := W) (t := t) ) (by first | exact zq_adn (by decide) | exact zq_adr (zq_adn (by decide)) | omega) ?_
  dsimp only [Option.toList, List.cons_append, List.nil_append]
  refine zeB1 rfl rfl (fun h1 => ?_) (fun h1 => ?_)
  · refine zeKn (c := 0) rfl rfl rfl ?_
    exact zeRe rfl rfl rfl rfl (by simp only [q_thread, h1, cond_true, cond_false] <;> rfl) (by simp only [q_thread, h1, cond_true, cond_false] <;> rfl)
  · have ct : t = Int32.ofNat t.toNatClampNeg ∧ t.toNatClampNeg < nv W 9 := (nT_in hw (by assumption))
    refine zeP rfl rfl ?_
    refine zeP rfl rfl ?_
    refine zeKn (c := 0) rfl rfl rfl ?_
    refine zeKn (c := 9) rfl rfl rfl ?_
    refine zeCF rfl rfl rfl rfl rfl rfl (c_in (m := (q_noThread m W t).2) (W := W) (v := x) (lo := (Int32.ofNat 0)) (hi := (Int32.ofNat 9)) ) (by first | exact zq_adn (by decide) | exact zq_adr (zq_adn (by decide)) | omega) ?_
    dsimp only [Option.toList, List.cons_append, List.nil_append]
    refine zeB1 rfl rfl (fun h2 => ?_) (fun h2 => ?_)
    · refine zeKn (c := 0) rfl rfl rfl ?_
      refine zeKn (c := 2) rfl rfl rfl ?_
      refine zeCF rfl rfl rfl rfl rfl rfl (c_thr0 (m := (q_noThread m W t).2) (W := W) (c := 2) ) (by first | exact zq_adn (by decide) | exact zq_adr (zq_adn (by decide)) | omega) ?_
      dsimp only [Option.toList, List.cons_append, List.nil_append]
      refine zeT1 rfl rfl (show zc1 .eq (Int32.ofNat 0) = true by decide) ?_
      have cx : x = Int32.ofNat x.toNatClampNeg ∧ (0 ≤ x.toNatClampNeg ∧ x.toNatClampNeg ≤ 9) := (in_1 (by first | exact zq_adn (by decide) | exact zq_adr (zq_adn (by decide)) | omega) (by first | exact zq_adn (by decide) | exact zq_adr (zq_adn (by decide)) | omega) (by assumption))
      refine zeKn (c := x.toNatClampNeg) rfl rfl cx.1 ?_
      cases h3 : Nat.beq ((x.toNatClampNeg)) 0 with
      | true =>
        refine zeSw (K := 0) rfl (by rw [Nat.eq_of_beq_eq_true h3]) rfl ?_
        refine zeP rfl rfl ?_
        refine zeKn (c := t.toNatClampNeg) rfl rfl ct.1 ?_
        refine zeKn (c := 0) rfl rfl rfl ?_
        refine zeCF rfl rfl rfl rfl rfl rfl (c_of (m := (q_noThread m W t).2) (W := W) (t := (t.toNatClampNeg)) (k := 0) (by have := hw.N4; omega)) (by first | exact zq_adn (by decide) | exact zq_adr (zq_adn (by decide)) | omega) ?_
        dsimp only [Option.toList, List.cons_append, List.nil_append]
        exact zeRe rfl rfl rfl rfl (by simp only [q_thread, h1, h2, h3, cond_true, cond_false] <;> rfl) (by simp only [q_thread, h1, h2, h3, cond_true, cond_false] <;> rfl)
      | false =>
        cases h4 : Nat.beq ((x.toNatClampNeg)) 1 with
        | true =>
          refine zeSw (K := 1) rfl (by rw [Nat.eq_of_beq_eq_true h4]) rfl ?_
          refine zeP rfl rfl ?_
          refine zeKn (c := t.toNatClampNeg) rfl rfl ct.1 ?_
          refine zeKn (c := 1) rfl rfl rfl ?_
          refine zeCF rfl rfl rfl rfl rfl rfl (c_of (m := (q_noThread m W t).2) (W := W) (t := (t.toNatClampNeg)) (k := 1) (by have := hw.N4; omega)) (by first | exact zq_adn (by decide) | exact zq_adr (zq_adn (by decide)) | omega) ?_
          dsimp only [Option.toList, List.cons_append, List.nil_append]
          exact zeRe rfl rfl rfl rfl (by simp only [q_thread, h1, h2, h3, h4, cond_true, cond_false] <;> rfl) (by simp only [q_thread, h1, h2, h3, h4, cond_true, cond_false] <;> rfl)
        | false =>
          cases h5 : Nat.beq ((x.toNatClampNeg)) 2 with
          | true =>
            refine zeSw (K := 2) rfl (by rw [Nat.eq_of_beq_eq_true h5]) rfl ?_
            refine zeP rfl rfl ?_
            refine zeKn (c := t.toNatClampNeg) rfl rfl ct.1 ?_
            refine zeKn (c := 2) rfl rfl rfl ?_
            refine zeCF rfl rfl rfl rfl rfl rfl (c_of (m := (q_noThread m W t).2) (W := W) (t := (t.toNatClampNeg)) (k := 2) (by have := hw.N4; omega)) (by first | exact zq_adn (by decide) | exact zq_adr (zq_adn (by decide)) | omega) ?_
            dsimp only [Option.toList, List.cons_append, List.nil_append]
            exact zeRe rfl rfl rfl rfl (by simp only [q_thread, h1, h2, h3, h4, h5, cond_true, cond_false] <;> rfl) (by simp only [q_thread, h1, h2, h3, h4, h5, cond_true, cond_false] <;> rfl)
          | false =>
            cases h6 : Nat.beq ((x.toNatClampNeg)) 3 with
            | true =>
              refine zeSw (K := 3) rfl (by rw [Nat.eq_of_beq_eq_true h6]) rfl ?_
              refine zeP rfl rfl ?_
              refine zeKn (c := t.toNatClampNeg) rfl rfl ct.1 ?_
              refine zeCF rfl rfl rfl rfl rfl rfl (c_isDone (m := (q_noThread m W t).2) (W := W) (t := (t.toNatClampNeg)) (by have := hw.N4; omega)) (by first | exact zq_adn (by decide) | exact zq_adr (zq_adn (by decide)) | omega) ?_
              dsimp only [Option.toList, List.cons_append, List.nil_append]
              refine zeB1 rfl rfl (fun h7 => ?_) (fun h7 => ?_)
              · refine zeKn (c := 0) rfl rfl rfl ?_
                exact zeRe rfl rfl rfl rfl (by simp only [q_thread, h1, h2, h3, h4, h5, h6, h7, cond_true, cond_false] <;> rfl) (by simp only [q_thread, h1, h2, h3, h4, h5, h6, h7, cond_true, cond_false] <;> rfl)
              · refine zeKn (c := 1) rfl rfl rfl ?_
                refine zeP rfl rfl ?_
                exact zeRe rfl rfl rfl rfl (by simp only [q_thread, h1, h2, h3, h4, h5, h6, h7, cond_true, cond_false] <;> rfl) (by simp only [q_thread, h1, h2, h3, h4, h5, h6, h7, cond_true, cond_false] <;> rfl)
            | false =>
              cases h8 : Nat.beq ((x.toNatClampNeg)) 4 with
              | true =>
                refine zeSw (K := 4) rfl (by rw [Nat.eq_of_beq_eq_true h8]) rfl ?_
                refine zeP rfl rfl ?_
                refine zeKn (c := t.toNatClampNeg) rfl rfl ct.1 ?_
                refine zeKn (c := 3) rfl rfl rfl ?_
                refine zeCF rfl rfl rfl rfl rfl rfl (c_of (m := (q_noThread m W t).2) (W := W) (t := (t.toNatClampNeg)) (k := 3) (by have := hw.N4; omega)) (by first | exact zq_adn (by decide) | exact zq_adr (zq_adn (by decide)) | omega) ?_
                dsimp only [Option.toList, List.cons_append, List.nil_append]
                exact zeRe rfl rfl rfl rfl (by simp only [q_thread, h1, h2, h3, h4, h5, h6, h8, cond_true, cond_false] <;> rfl) (by simp only [q_thread, h1, h2, h3, h4, h5, h6, h8, cond_true, cond_false] <;> rfl)
              | false =>
                cases h9 : Nat.beq ((x.toNatClampNeg)) 5 with
                | true =>
                  refine zeSw (K := 5) rfl (by rw [Nat.eq_of_beq_eq_true h9]) rfl ?_
                  refine zeP rfl rfl ?_
                  refine zeKn (c := t.toNatClampNeg) rfl rfl ct.1 ?_
                  refine zeKn (c := 4) rfl rfl rfl ?_
                  refine zeCF rfl rfl rfl rfl rfl rfl (c_of (m := (q_noThread m W t).2) (W := W) (t := (t.toNatClampNeg)) (k := 4) (by have := hw.N4; omega)) (by first | exact zq_adn (by decide) | exact zq_adr (zq_adn (by decide)) | omega) ?_
                  dsimp only [Option.toList, List.cons_append, List.nil_append]
                  exact zeRe rfl rfl rfl rfl (by simp only [q_thread, h1, h2, h3, h4, h5, h6, h8, h9, cond_true, cond_false] <;> rfl) (by simp only [q_thread, h1, h2, h3, h4, h5, h6, h8, h9, cond_true, cond_false] <;> rfl)
                | false =>
                  cases h10 : Nat.beq ((x.toNatClampNeg)) 6 with
                  | true =>
                    refine zeSw (K := 6) rfl (by rw [Nat.eq_of_beq_eq_true h10]) rfl ?_
                    refine zeP rfl rfl ?_
                    refine zeKn (c := t.toNatClampNeg) rfl rfl ct.1 ?_
                    refine zeCF rfl rfl rfl rfl rfl rfl (c_fellOf (m := (q_noThread m W t).2) (W := W) (t := (t.toNatClampNeg)) (by have := hw.N4; omega)) (by first | exact zq_adn (by decide) | exact zq_adr (zq_adn (by decide)) | omega) ?_
                    dsimp only [Option.toList, List.cons_append, List.nil_append]
                    exact zeRe rfl rfl rfl rfl (by simp only [q_thread, h1, h2, h3, h4, h5, h6, h8, h9, h10, cond_true, cond_false] <;> rfl) (by simp only [q_thread, h1, h2, h3, h4, h5, h6, h8, h9, h10, cond_true, cond_false] <;> rfl)
                  | false =>
                    cases h11 : Nat.beq ((x.toNatClampNeg)) 7 with
                    | true =>
                      refine zeSw (K := 7) rfl (by rw [Nat.eq_of_beq_eq_true h11]) rfl ?_
                      refine zeP rfl rfl ?_
                      refine zeKn (c := t.toNatClampNeg) rfl rfl ct.1 ?_
                      refine zeKn (c := 10) rfl rfl rfl ?_
                      refine zeCF rfl rfl rfl rfl rfl rfl (c_of (m := (q_noThread m W t).2) (W := W) (t := (t.toNatClampNeg)) (k := 10) (by have := hw.N4; omega)) (by first | exact zq_adn (by decide) | exact zq_adr (zq_adn (by decide)) | omega) ?_
                      dsimp only [Option.toList, List.cons_append, List.nil_append]
                      exact zeRe rfl rfl rfl rfl (by simp only [q_thread, h1, h2, h3, h4, h5, h6, h8, h9, h10, h11, cond_true, cond_false] <;> rfl) (by simp only [q_thread, h1, h2, h3, h4, h5, h6, h8, h9, h10, h11, cond_true, cond_false] <;> rfl)
                    | false =>
                      cases h12 : Nat.beq ((x.toNatClampNeg)) 8 with
                      | true =>
                        refine zeSw (K := 8) rfl (by rw [Nat.eq_of_beq_eq_true h12]) rfl ?_
                        refine zeP rfl rfl ?_
                        refine zeKn (c := t.toNatClampNeg) rfl rfl ct.1 ?_
                        refine zeKn (c := 22) rfl rfl rfl ?_
                        refine zeCF rfl rfl rfl rfl rfl rfl (c_of (m := (q_noThread m W t).2) (W := W) (t := (t.toNatClampNeg)) (k := 22) (by have := hw.N4; omega)) (by first | exact zq_adn (by decide) | exact zq_adr (zq_adn (by decide)) | omega) ?_
                        dsimp only [Option.toList, List.cons_append, List.nil_append]
                        exact zeRe rfl rfl rfl rfl (by simp only [q_thread, h1, h2, h3, h4, h5, h6, h8, h9, h10, h11, h12, cond_true, cond_false] <;> rfl) (by simp only [q_thread, h1, h2, h3, h4, h5, h6, h8, h9, h10, h11, h12, cond_true, cond_false] <;> rfl)
                      | false =>
                        have hB : (x.toNatClampNeg) = 9 := by
                          have e0 := Nat.ne_of_beq_eq_false h3
                          have e1 := Nat.ne_of_beq_eq_false h4
                          have e2 := Nat.ne_of_beq_eq_false h5
                          have e3 := Nat.ne_of_beq_eq_false h6
                          have e4 := Nat.ne_of_beq_eq_false h8
                          have e5 := Nat.ne_of_beq_eq_false h9
                          have e6 := Nat.ne_of_beq_eq_false h10
                          have e7 := Nat.ne_of_beq_eq_false h11
                          have e8 := Nat.ne_of_beq_eq_false h12
                          have eB := cx.2.2
                          omega
                        refine zeSw (K := 9) rfl (by rw [hB]) rfl ?_
                        refine zeP rfl rfl ?_
                        refine zeKn (c := t.toNatClampNeg) rfl rfl ct.1 ?_
                        refine zeKn (c := 21) rfl rfl rfl ?_
                        refine zeCF rfl rfl rfl rfl rfl rfl (c_of (m := (q_noThread m W t).2) (W := W) (t := (t.toNatClampNeg)) (k := 21) (by have := hw.N4; omega)) (by first | exact zq_adn (by decide) | exact zq_adr (zq_adn (by decide)) | omega) ?_
                        dsimp only [Option.toList, List.cons_append, List.nil_append]
                        exact zeRe rfl rfl rfl rfl (by simp only [q_thread, h1, h2, h3, h4, h5, h6, h8, h9, h10, h11, h12, cond_true, cond_false] <;> rfl) (by simp only [q_thread, h1, h2, h3, h4, h5, h6, h8, h9, h10, h11, h12, cond_true, cond_false] <;> rfl)
    · refine zeKn (c := 1) rfl rfl rfl ?_
      refine zeP rfl rfl ?_
      refine zeKn (c := 2) rfl rfl rfl ?_
      refine zeCF rfl rfl rfl rfl rfl rfl (c_thr1 (m := (q_noThread m W t).2) (W := W) (c := 2) ) (by first | exact zq_adn (by decide) | exact zq_adr (zq_adn (by decide)) | omega) ?_
      dsimp only [Option.toList, List.cons_append, List.nil_append]
      refine zeF1 rfl rfl (show zc1 .eq (Int32.ofNat 1) = false by decide) ?_
      refine zeKn (c := 0) rfl rfl rfl ?_
      exact zeRe rfl rfl rfl rfl (by simp only [q_thread, h1, h2, cond_true, cond_false] <;> rfl) (by simp only [q_thread, h1, h2, cond_true, cond_false] <;> rfl)
theorem c_thread {σ : Nat → Nat × (Nat → Int32)} {yy : (Nat → Nat → Int64) × Bool × Nat × Nat} {m : Nat → Nat → Int32} {W : Nat → Int32} {t : Int32} {x : Int32} (hw : WG W) : zF σ 4 1872 [.ref 137, .int t, .int x] (zS1, zrow m 138 W, yy) (.inl (some (.int (q_thread m W t x).1))) (zS1, zrow ((q_thread m W t x).2) 138 W, yy) := by
  intro d hd
  obtain ⟨d, rfl⟩ : ∃ k, d = k + 1 := ⟨d - 1, by omega⟩
  exact p_thread hd hw
noncomputable def q_blocks (m : Nat → Nat → Int32) (W : Nat → Int32) (t : Int32) (x : Int32) : Int32 × (Nat → Nat → Int32) := (bif zc1 .ne (q_noThread m W t).1 then ((Int32.ofNat 0), (q_noThread m W t).2) else (bif zc1 .ne (q_in x ((Int32.ofNat 0)) ((Int32.ofNat 1))) then (bif zc1 .ne x then ((q_of W ((t.toNatClampNeg)) 16), (q_noThread m W t).2) else ((q_of W ((t.toNatClampNeg)) 15), (q_noThread m W t).2)) else ((Int32.ofNat 0), (q_thr1 ((q_noThread m W t).2) 2).2)))
theorem p_blocks {σ : Nat → Nat × (Nat → Int32)} {yy : (Nat → Nat → Int64) × Bool × Nat × Nat} {m : Nat → Nat → Int32} {W : Nat → Int32} {t : Int32} {x : Int32} {d : Nat} (hd : 3 ≤ d + 1) (hw : WG W) : zEv σ (d + 1) 1874 0 [some (.ref 137), some (.int t), some (.int x)] [] (zS1, zrow m 138 W, yy) (.inl (some (.int (q_blocks m W t x).1))) (zS1, zrow ((q_blocks m W t x).2) 138 W, yy) := by
  refine zeP rfl rfl ?_
  refine zeP rfl rfl ?_
  refine zeCF rfl rfl rfl rfl rfl rfl (c_noThread (m := m) (W := W) (t := t) ) (by first | exact zq_adn (by decide) | exact zq_adr (zq_adn (by decide)) | omega) ?_
  dsimp only [Option.toList, List.cons_append, List.nil_append]
  refine zeB1 rfl rfl (fun h1 => ?_) (fun h1 => ?_)
  · refine zeKn (c := 0) rfl rfl rfl ?_
    refine zeP rfl rfl ?_
    exact zeRe rfl rfl rfl rfl (by simp only [q_blocks, h1, cond_true, cond_false] <;> rfl) (by simp only [q_blocks, h1, cond_true, cond_false] <;> rfl)
  · have ct : t = Int32.ofNat t.toNatClampNeg ∧ t.toNatClampNeg < nv W 9 := (nT_in hw (by assumption))
    refine zeP rfl rfl ?_
    refine zeP rfl rfl ?_
    refine zeKn (c := 0) rfl rfl rfl ?_
    refine zeKn (c := 1) rfl rfl rfl ?_
    refine zeCF rfl rfl rfl rfl rfl rfl (c_in (m := (q_noThread m W t).2) (W := W) (v := x) (lo := (Int32.ofNat 0)) (hi := (Int32.ofNat 1)) ) (by first | exact zq_adn (by decide) | exact zq_adr (zq_adn (by decide)) | omega) ?_
    dsimp only [Option.toList, List.cons_append, List.nil_append]
    refine zeB1 rfl rfl (fun h2 => ?_) (fun h2 => ?_)
    · refine zeKn (c := 0) rfl rfl rfl ?_
      refine zeKn (c := 2) rfl rfl rfl ?_
      refine zeCF rfl rfl rfl rfl rfl rfl (c_thr0 (m := (q_noThread m W t).2) (W := W) (c := 2) ) (by first | exact zq_adn (by decide) | exact zq_adr (zq_adn (by decide)) | omega) ?_
      dsimp only [Option.toList, List.cons_append, List.nil_append]
      refine zeT1 rfl rfl (show zc1 .eq (Int32.ofNat 0) = true by decide) ?_
      refine zeP rfl rfl ?_
      refine zeKn (c := t.toNatClampNeg) rfl rfl ct.1 ?_
      refine zeP rfl rfl ?_
      refine zeB1 rfl rfl (fun h3 => ?_) (fun h3 => ?_)
      · refine zeKn (c := 16) rfl rfl rfl ?_
        refine zeCF rfl rfl rfl rfl rfl rfl (c_of (m := (q_noThread m W t).2) (W := W) (t := (t.toNatClampNeg)) (k := 16) (by have := hw.N4; omega)) (by first | exact zq_adn (by decide) | exact zq_adr (zq_adn (by decide)) | omega) ?_
        dsimp only [Option.toList, List.cons_append, List.nil_append]
        exact zeRe rfl rfl rfl rfl (by simp only [q_blocks, h1, h2, h3, cond_true, cond_false] <;> rfl) (by simp only [q_blocks, h1, h2, h3, cond_true, cond_false] <;> rfl)
      · refine zeKn (c := 15) rfl rfl rfl ?_
        refine zeP rfl rfl ?_
        refine zeCF rfl rfl rfl rfl rfl rfl (c_of (m := (q_noThread m W t).2) (W := W) (t := (t.toNatClampNeg)) (k := 15) (by have := hw.N4; omega)) (by first | exact zq_adn (by decide) | exact zq_adr (zq_adn (by decide)) | omega) ?_
        dsimp only [Option.toList, List.cons_append, List.nil_append]
        exact zeRe rfl rfl rfl rfl (by simp only [q_blocks, h1, h2, h3, cond_true, cond_false] <;> rfl) (by simp only [q_blocks, h1, h2, h3, cond_true, cond_false] <;> rfl)
    · refine zeKn (c := 1) rfl rfl rfl ?_
      refine zeP rfl rfl ?_
      refine zeKn (c := 2) rfl rfl rfl ?_
      refine zeCF rfl rfl rfl rfl rfl rfl (c_thr1 (m := (q_noThread m W t).2) (W := W) (c := 2) ) (by first | exact zq_adn (by decide) | exact zq_adr (zq_adn (by decide)) | omega) ?_
      dsimp only [Option.toList, List.cons_append, List.nil_append]
      refine zeF1 rfl rfl (show zc1 .eq (Int32.ofNat 1) = false by decide) ?_
      refine zeKn (c := 0) rfl rfl rfl ?_
      refine zeP rfl rfl ?_
      exact zeRe rfl rfl rfl rfl (by simp only [q_blocks, h1, h2, cond_true, cond_false] <;> rfl) (by simp only [q_blocks, h1, h2, cond_true, cond_false] <;> rfl)
theorem c_blocks {σ : Nat → Nat × (Nat → Int32)} {yy : (Nat → Nat → Int64) × Bool × Nat × Nat} {m : Nat → Nat → Int32} {W : Nat → Int32} {t : Int32} {x : Int32} (hw : WG W) : zF σ 3 1874 [.ref 137, .int t, .int x] (zS1, zrow m 138 W, yy) (.inl (some (.int (q_blocks m W t x).1))) (zS1, zrow ((q_blocks m W t x).2) 138 W, yy) := by
  intro d hd
  obtain ⟨d, rfl⟩ : ∃ k, d = k + 1 := ⟨d - 1, by omega⟩
  exact p_blocks hd hw
noncomputable def q_noWord (m : Nat → Nat → Int32) (w : Int32) : Int32 × (Nat → Nat → Int32) := (bif zc1 .ne (q_in w ((Int32.ofNat 0)) ((Int32.ofNat 31))) then ((Int32.ofNat 0), m) else ((Int32.ofNat 1), (q_thr1 m 1).2))
theorem p_noWord {σ : Nat → Nat × (Nat → Int32)} {yy : (Nat → Nat → Int64) × Bool × Nat × Nat} {m : Nat → Nat → Int32} {W : Nat → Int32} {w : Int32} {d : Nat} (hd : 2 ≤ d + 1) : zEv σ (d + 1) 1876 0 [some (.ref 137), some (.int w)] [] (zS1, zrow m 138 W, yy) (.inl (some (.int (q_noWord m w).1))) (zS1, zrow ((q_noWord m w).2) 138 W, yy) := by
  refine zeP rfl rfl ?_
  refine zeP rfl rfl ?_
  refine zeKn (c := 0) rfl rfl rfl ?_
  refine zeKn (c := 31) rfl rfl rfl ?_
  refine zeCF rfl rfl rfl rfl rfl rfl (c_in (m := m) (W := W) (v := w) (lo := (Int32.ofNat 0)) (hi := (Int32.ofNat 31)) ) (by first | exact zq_adn (by decide) | exact zq_adr (zq_adn (by decide)) | omega) ?_
  dsimp only [Option.toList, List.cons_append, List.nil_append]
  refine zeB1 rfl rfl (fun h1 => ?_) (fun h1 => ?_)
  · refine zeKn (c := 0) rfl rfl rfl ?_
    refine zeKn (c := 1) rfl rfl rfl ?_
    refine zeCF rfl rfl rfl rfl rfl rfl (c_thr0 (m := m) (W := W) (c := 1) ) (by first | exact zq_adn (by decide) | exact zq_adr (zq_adn (by decide)) | omega) ?_
    dsimp only [Option.toList, List.cons_append, List.nil_append]
    exact zeRe rfl rfl rfl rfl (by simp only [q_noWord, h1, cond_true, cond_false] <;> rfl) (by simp only [q_noWord, h1, cond_true, cond_false] <;> rfl)
  · refine zeKn (c := 1) rfl rfl rfl ?_
    refine zeP rfl rfl ?_
    refine zeKn (c := 1) rfl rfl rfl ?_
    refine zeCF rfl rfl rfl rfl rfl rfl (c_thr1 (m := m) (W := W) (c := 1) ) (by first | exact zq_adn (by decide) | exact zq_adr (zq_adn (by decide)) | omega) ?_
    dsimp only [Option.toList, List.cons_append, List.nil_append]
    exact zeRe rfl rfl rfl rfl (by simp only [q_noWord, h1, cond_true, cond_false] <;> rfl) (by simp only [q_noWord, h1, cond_true, cond_false] <;> rfl)
theorem c_noWord {σ : Nat → Nat × (Nat → Int32)} {yy : (Nat → Nat → Int64) × Bool × Nat × Nat} {m : Nat → Nat → Int32} {W : Nat → Int32} {w : Int32} : zF σ 2 1876 [.ref 137, .int w] (zS1, zrow m 138 W, yy) (.inl (some (.int (q_noWord m w).1))) (zS1, zrow ((q_noWord m w).2) 138 W, yy) := by
  intro d hd
  obtain ⟨d, rfl⟩ : ∃ k, d = k + 1 := ⟨d - 1, by omega⟩
  exact p_noWord hd 
noncomputable def q_term (m : Nat → Nat → Int32) (W : Nat → Int32) (x : Int32) : Int32 × (Nat → Nat → Int32) := (bif zc1 .ne (q_in x ((Int32.ofNat 0)) ((Int32.ofNat 8))) then ((W (x.toNatClampNeg)), (zm2 m 137 0 (Int32.ofNat 0))) else ((Int32.ofNat 0), (q_thr1 ((zm2 m 137 0 (Int32.ofNat 0))) 1).2))
theorem p_term {σ : Nat → Nat × (Nat → Int32)} {yy : (Nat → Nat → Int64) × Bool × Nat × Nat} {m : Nat → Nat → Int32} {W : Nat → Int32} {x : Int32} {d : Nat} (hd : 2 ≤ d + 1) : zEv σ (d + 1) 1881 0 [some (.ref 137), some (.int x)] [] (zS1, zrow m 138 W, yy) (.inl (some (.int (q_term m W x).1))) (zS1, zrow ((q_term m W x).2) 138 W, yy) := by
  refine zeP rfl rfl ?_
  refine zeKn (c := 0) rfl rfl rfl ?_
  refine zeFP rfl rfl rfl ?_
  refine zeP rfl rfl ?_
  refine zeP rfl rfl ?_
  refine zeKn (c := 0) rfl rfl rfl ?_
  refine zeKn (c := 8) rfl rfl rfl ?_
  refine zeCF rfl rfl rfl rfl rfl rfl (c_in (m := (zm2 m 137 0 (Int32.ofNat 0))) (W := W) (v := x) (lo := (Int32.ofNat 0)) (hi := (Int32.ofNat 8)) ) (by first | exact zq_adn (by decide) | exact zq_adr (zq_adn (by decide)) | omega) ?_
  dsimp only [Option.toList, List.cons_append, List.nil_append]
  refine zeB1 rfl rfl (fun h1 => ?_) (fun h1 => ?_)
  · refine zeKn (c := 0) rfl rfl rfl ?_
    refine zeKn (c := 1) rfl rfl rfl ?_
    refine zeCF rfl rfl rfl rfl rfl rfl (c_thr0 (m := (zm2 m 137 0 (Int32.ofNat 0))) (W := W) (c := 1) ) (by first | exact zq_adn (by decide) | exact zq_adr (zq_adn (by decide)) | omega) ?_
    dsimp only [Option.toList, List.cons_append, List.nil_append]
    refine zeT1 rfl rfl (show zc1 .eq (Int32.ofNat 0) = true by decide) ?_
    have cx : x = Int32.ofNat x.toNatClampNeg ∧ (0 ≤ x.toNatClampNeg ∧ x.toNatClampNeg ≤ 8) := (in_1 (by first | exact zq_adn (by decide) | exact zq_adr (zq_adn (by decide)) | omega) (by first | exact zq_adn (by decide) | exact zq_adr (zq_adn (by decide)) | omega) (by assumption))
    refine zeP rfl rfl ?_
    refine zeGR rfl rfl zS137 rfl rfl ?_
    refine zeKn (c := x.toNatClampNeg) rfl rfl cx.1 ?_
    refine zeWL (k := (x.toNatClampNeg)) rfl (by first | exact zq_adn (by decide) | exact zq_adr (zq_adn (by decide)) | omega) ?_
    exact zeRe rfl rfl rfl rfl (by simp only [q_term, h1, cond_true, cond_false] <;> rfl) (by simp only [q_term, h1, cond_true, cond_false] <;> rfl)
  · refine zeKn (c := 1) rfl rfl rfl ?_
    refine zeP rfl rfl ?_
    refine zeKn (c := 1) rfl rfl rfl ?_
    refine zeCF rfl rfl rfl rfl rfl rfl (c_thr1 (m := (zm2 m 137 0 (Int32.ofNat 0))) (W := W) (c := 1) ) (by first | exact zq_adn (by decide) | exact zq_adr (zq_adn (by decide)) | omega) ?_
    dsimp only [Option.toList, List.cons_append, List.nil_append]
    refine zeF1 rfl rfl (show zc1 .eq (Int32.ofNat 1) = false by decide) ?_
    refine zeKn (c := 0) rfl rfl rfl ?_
    refine zeP rfl rfl ?_
    exact zeRe rfl rfl rfl rfl (by simp only [q_term, h1, cond_true, cond_false] <;> rfl) (by simp only [q_term, h1, cond_true, cond_false] <;> rfl)
theorem c_term {σ : Nat → Nat × (Nat → Int32)} {yy : (Nat → Nat → Int64) × Bool × Nat × Nat} {m : Nat → Nat → Int32} {W : Nat → Int32} {x : Int32} : zF σ 2 1881 [.ref 137, .int x] (zS1, zrow m 138 W, yy) (.inl (some (.int (q_term m W x).1))) (zS1, zrow ((q_term m W x).2) 138 W, yy) := by
  intro d hd
  obtain ⟨d, rfl⟩ : ∃ k, d = k + 1 := ⟨d - 1, by omega⟩
  exact p_term hd 
noncomputable def q_seed (m : Nat → Nat → Int32) (W : Nat → Int32) (n : Int32) : Int32 × (Nat → Int32) × (Nat → Nat → Int32) := ((W 13), (upd W 13 n), (zm2 m 137 0 (Int32.ofNat 0)))
theorem p_seed {σ : Nat → Nat × (Nat → Int32)} {yy : (Nat → Nat → Int64) × Bool × Nat × Nat} {m : Nat → Nat → Int32} {W : Nat → Int32} {n : Int32} {d : Nat} (hd : 1 ≤ d + 1) : zEv σ (d + 1) 1870 0 [some (.ref 137), some (.int n), none] [] (zS1, zrow m 138 W, yy) (.inl (some (.int (q_seed m W n).1))) (zS1, zrow ((q_seed m W n).2.2) 138 ((q_seed m W n).2.1), yy) := by
  refine zeP rfl rfl ?_
  refine zeKn (c := 0) rfl rfl rfl ?_
  refine zeFP rfl rfl rfl ?_
  refine zeP rfl rfl ?_
  refine zeGR rfl rfl zS137 rfl rfl ?_
  refine zeKn (c := 13) rfl rfl rfl ?_
  refine zeWL (k := 13) rfl (by first | exact zq_adn (by decide) | exact zq_adr (zq_adn (by decide)) | omega) ?_
  refine zeP rfl rfl ?_
  refine zeP rfl rfl ?_
  refine zeGR rfl rfl zS137 rfl rfl ?_
  refine zeKn (c := 13) rfl rfl rfl ?_
  refine zeP rfl rfl ?_
  refine zeWS (k := 13) rfl (by first | exact zq_adn (by decide) | exact zq_adr (zq_adn (by decide)) | omega) ?_
  refine zeP rfl rfl ?_
  exact zeRe rfl rfl rfl rfl (by rfl) (by rfl)
theorem c_seed {σ : Nat → Nat × (Nat → Int32)} {yy : (Nat → Nat → Int64) × Bool × Nat × Nat} {m : Nat → Nat → Int32} {W : Nat → Int32} {n : Int32} : zF σ 1 1870 [.ref 137, .int n] (zS1, zrow m 138 W, yy) (.inl (some (.int (q_seed m W n).1))) (zS1, zrow ((q_seed m W n).2.2) 138 ((q_seed m W n).2.1), yy) := by
  intro d hd
  obtain ⟨d, rfl⟩ : ∃ k, d = k + 1 := ⟨d - 1, by omega⟩
  exact p_seed hd 
