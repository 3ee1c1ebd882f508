/-! 69.ref 70.ref -/
section
theorem zeSub {σ : Nat → Nat × (Nat → Int32)} {d j pc a b : Nat} {lv : zLv} {r : List Value} {M M' : zMem} {o : zO} (hf : zfe j pc = some (.isub, 1)) (h : b ≤ a) (k : zEv σ d j (pc + 1) lv (.int (Int32.ofNat (a - b)) :: r) M o M') : zEv σ d j pc lv (.int (Int32.ofNat b) :: .int (Int32.ofNat a) :: r) M o M' := by
  have e : Int32.ofNat a - Int32.ofNat b = Int32.ofNat (a - b) := by
    have e1 : Int32.ofNat a = Int32.ofNat (a - b) + Int32.ofNat b := by rw [← Int32.ofNat_add, Nat.sub_add_cancel h]
    rw [e1, Int32.add_sub_cancel]
  rw [← e] at k
  exact zeP hf rfl k
theorem zeSwD {σ : Nat → Nat × (Nat → Int32)} {d j pc pc' len : Nat} {lv : zLv} {st : List Value} {M M' : zMem} {o : zO} {dflt lo hi : Int} {offs : Array Int} {x : Int32} (hf : zfe j pc = some (.tableswitch dflt lo hi offs, len)) (hx : x.toInt < lo ∨ hi < x.toInt) (hp : ztg pc dflt = some pc') (k : zEv σ d j pc' lv st M o M') : zEv σ d j pc lv (.int x :: st) M o M' := by
  refine zeP hf ?_ k
  simp only [zP]
  rw [if_pos hx]
  simp only [zgo, hp, Option.map_some]
theorem zsw9 {x : Int32} (h0 : ¬ x = Int32.ofNat 0) (h1 : ¬ x = Int32.ofNat 1) (h2 : ¬ x = Int32.ofNat 2) (h3 : ¬ x = Int32.ofNat 3) (h4 : ¬ x = Int32.ofNat 4) (h5 : ¬ x = Int32.ofNat 5) (h6 : ¬ x = Int32.ofNat 6) (h7 : ¬ x = Int32.ofNat 7) (h8 : ¬ x = Int32.ofNat 8) (h9 : ¬ x = Int32.ofNat 9) : x.toInt < 0 ∨ 9 < x.toInt := by
  have key : ∀ K : Nat, K < 10 → x.toInt = K → x = Int32.ofNat K := by
    intro K hK e
    apply Int32.toInt_inj.mp
    rw [e, zoN (by omega)]
  apply Classical.byContradiction
  intro hn
  have hr : 0 ≤ x.toInt ∧ x.toInt ≤ 9 := by omega
  obtain ⟨K, hK⟩ := Int.eq_ofNat_of_zero_le hr.1
  have hK9 : K < 10 := by omega
  have e := key K hK9 hK
  match K, hK9, e with
  | 0, _, e => exact h0 e
  | 1, _, e => exact h1 e
  | 2, _, e => exact h2 e
  | 3, _, e => exact h3 e
  | 4, _, e => exact h4 e
  | 5, _, e => exact h5 e
  | 6, _, e => exact h6 e
  | 7, _, e => exact h7 e
  | 8, _, e => exact h8 e
  | 9, _, e => exact h9 e
theorem zneF {x : Int32} (h : zc1 .eq x = true) : zc1 .ne x = false := decide_eq_false (fun q => q (of_decide_eq_true h))
theorem zne {x : Int32} (h : zc1 .eq x = false) : zc1 .ne x = true := decide_eq_true (of_decide_eq_false h)
theorem in_n {v : Int32} {n : Nat} (hn : n < 2147483648) (h : zc1 .ne (q_in v (Int32.ofNat 0) (Int32.ofNat n - Int32.ofNat 1)) = true) : v = Int32.ofNat v.toNatClampNeg ∧ v.toNatClampNeg < n := by
  by_cases h0 : n = 0
  · rw [h0] at h
    unfold q_in at h
    cases h1 : zc2 .lt v (Int32.ofNat 0) with
    | true => rw [h1, cond_true] at h; exact absurd h (by decide)
    | false =>
      rw [h1, cond_false] at h
      have e1 : ¬ v < Int32.ofNat 0 := of_decide_eq_false h1
      have e2 : zc2 .gt v (Int32.ofNat 0 - Int32.ofNat 1) = true := by
        apply decide_eq_true
        rw [Int32.lt_iff_toInt_lt]
        rw [Int32.lt_iff_toInt_lt, zoN (by omega)] at e1
        have e3 : (Int32.ofNat 0 - Int32.ofNat 1).toInt = -1 := by decide
        omega
      rw [e2, cond_true] at h
      exact absurd h (by decide)
  · rw [zsubN (by omega)] at h
    have h2 := in_1 (by omega) (by omega) h
    exact ⟨h2.1, by omega⟩
theorem nd_KG {W : Nat → Int32} (h : WG W) {u : Nat} (hu : u < 4) (hc : zc1 .ne (q_isDone W u) = false) : KG W u := by
  refine ⟨h, dn_AL h hu ?_⟩
  cases hd : dn W u with
  | false => rfl
  | true => rw [isDone_dn, hd] at hc; exact absurd hc (by decide)
noncomputable def q_leftOut (m : Nat → Nat → Int32) (W : Nat → Int32) (t : Int32) (k : Int32) : Int32 × (Nat → Nat → Int32) := (bif zc1 .eq (q_noThread m W t).1 then (bif zc1 .eq (q_in k ((Int32.ofNat 0)) (((Int32.ofNat (nv W (376 + 103 * t.toNatClampNeg + 10))) - (Int32.ofNat 1)))) then ((-1), (q_noThread m W t).2) else ((q_of W ((t.toNatClampNeg)) ((11 + (k.toNatClampNeg)))), (q_noThread m W t).2)) else ((Int32.ofNat 0), (q_noThread m W t).2))
theorem p_leftOut {σ : Nat → Nat × (Nat → Int32)} {yy : (Nat → Nat → Int64) × Bool × Nat × Nat} {m : Nat → Nat → Int32} {W : Nat → Int32} {t : Int32} {k : Int32} {d : Nat} (hd : 3 ≤ d + 1) (hw : WG W) : zEv σ (d + 1) 1873 0 [some (.ref 137), some (.int t), some (.int k)] [] (zS1, zrow m 138 W, yy) (.inl (some (.int (q_leftOut m W t k).1))) (zS1, zrow ((q_leftOut m W t k).2) 138 W, yy) := by
  refine zeP rfl rfl ?_
  refine zeP rfl rfl ?_
  refine zeCF rfl rfl rfl rfl rfl rfl (c_noThread (m := m) (W := W) (t := t) ) (by omega) ?_
  dsimp only [Option.toList, List.cons_append, List.nil_append]
  refine zeB1 rfl rfl (fun h1 => ?_) (fun h1 => ?_)
  · have ct : t = Int32.ofNat t.toNatClampNeg ∧ t.toNatClampNeg < nv W 9 := (nT_in hw (zneF (by assumption)))
    refine zeP rfl rfl ?_
    refine zeKn (c := 0) rfl rfl rfl ?_
    refine zeP rfl rfl ?_
    refine zeKn (c := t.toNatClampNeg) rfl rfl ct.1 ?_
    refine zeKn (c := 10) rfl rfl rfl ?_
    refine zeCF rfl rfl rfl rfl rfl rfl (c_of (m := (q_noThread m W t).2) (W := W) (t := (t.toNatClampNeg)) (k := 10) (by have := hw.N4; omega)) (by omega) ?_
    dsimp only [Option.toList, List.cons_append, List.nil_append]
    rw [show q_of W (t.toNatClampNeg) 10 = Int32.ofNat (nv W (376 + 103 * t.toNatClampNeg + 10)) from (hw.2 _ (by have := hw.N4; omega)).2.1.1]
    refine zeKn (c := 1) rfl rfl rfl ?_
    refine zeP rfl rfl ?_
    refine zeCF rfl rfl rfl rfl rfl rfl (c_in (m := (q_noThread m W t).2) (W := W) (v := k) (lo := (Int32.ofNat 0)) (hi := ((Int32.ofNat (nv W (376 + 103 * t.toNatClampNeg + 10))) - (Int32.ofNat 1))) ) (by omega) ?_
    dsimp only [Option.toList, List.cons_append, List.nil_append]
    refine zeB1 rfl rfl (fun h2 => ?_) (fun h2 => ?_)
    · refine zeK (v := -1) rfl rfl rfl ?_
      exact zeRe rfl rfl rfl rfl (by simp only [q_leftOut, h1, h2, cond_true, cond_false] <;> rfl) (by simp only [q_leftOut, h1, h2, cond_true, cond_false] <;> rfl)
    · have ck : k = Int32.ofNat k.toNatClampNeg ∧ k.toNatClampNeg < nv W (376 + 103 * t.toNatClampNeg + 10) := (in_n (by have := (hw.2 t.toNatClampNeg (by have := hw.N4; omega)).2.1.2.2; omega) (zne (by assumption)))
      refine zeP rfl rfl ?_
      refine zeKn (c := t.toNatClampNeg) rfl rfl ct.1 ?_
      refine zeKn (c := 11) rfl rfl rfl ?_
      refine zeKn (c := k.toNatClampNeg) rfl rfl ck.1 ?_
      refine zeAdd rfl ?_
      refine zeCF rfl rfl rfl rfl rfl rfl (c_of (m := (q_noThread m W t).2) (W := W) (t := (t.toNatClampNeg)) (k := (11 + (k.toNatClampNeg))) (by have := (hw.2 t.toNatClampNeg (by have := hw.N4; omega)).2.1.2.2; have := hw.N4; omega)) (by omega) ?_
      dsimp only [Option.toList, List.cons_append, List.nil_append]
      refine zeP rfl rfl ?_
      exact zeRe rfl rfl rfl rfl (by simp only [q_leftOut, h1, h2, cond_true, cond_false] <;> rfl) (by simp only [q_leftOut, h1, h2, cond_true, cond_false] <;> rfl)
  · refine zeKn (c := 0) rfl rfl rfl ?_
    refine zeP rfl rfl ?_
    exact zeRe rfl rfl rfl rfl (by simp only [q_leftOut, h1, cond_true, cond_false] <;> rfl) (by simp only [q_leftOut, h1, cond_true, cond_false] <;> rfl)
theorem c_leftOut {σ : Nat → Nat × (Nat → Int32)} {yy : (Nat → Nat → Int64) × Bool × Nat × Nat} {m : Nat → Nat → Int32} {W : Nat → Int32} {t : Int32} {k : Int32} (hw : WG W) : zF σ 3 1873 [.ref 137, .int t, .int k] (zS1, zrow m 138 W, yy) (.inl (some (.int (q_leftOut m W t k).1))) (zS1, zrow ((q_leftOut m W t k).2) 138 W, yy) := by
  intro d hd
  obtain ⟨d, rfl⟩ : ∃ k, d = k + 1 := ⟨d - 1, by omega⟩
  exact p_leftOut hd hw
theorem nW_in {m : Nat → Nat → Int32} {w : Int32} (hc : zc1 .eq (q_noWord m w).1 = true) : w = Int32.ofNat w.toNatClampNeg ∧ w.toNatClampNeg < 32 := by
  unfold q_noWord at hc
  cases h1 : zc1 .ne (q_in w (Int32.ofNat 0) (Int32.ofNat 31)) with
  | true =>
    have h2 := in_1 (by omega) (by omega) h1
    exact ⟨h2.1, by omega⟩
  | false =>
    rw [h1, cond_false] at hc
    exact absurd hc (show ¬ zc1 .eq (Int32.ofNat 1) = true by decide)
noncomputable def q_word (m : Nat → Nat → Int32) (W : Nat → Int32) (w : Int32) : Int32 × (Nat → Nat → Int32) := (bif zc1 .eq (q_noWord ((zm2 m 137 0 (Int32.ofNat 0))) w).1 then ((W (32 + (w.toNatClampNeg))), (q_noWord ((zm2 m 137 0 (Int32.ofNat 0))) w).2) else ((Int32.ofNat 0), (q_noWord ((zm2 m 137 0 (Int32.ofNat 0))) w).2))
theorem p_word {σ : Nat → Nat × (Nat → Int32)} {yy : (Nat → Nat → Int64) × Bool × Nat × Nat} {m : Nat → Nat → Int32} {W : Nat → Int32} {w : Int32} {d : Nat} (hd : 3 ≤ d + 1) : zEv σ (d + 1) 1877 0 [some (.ref 137), some (.int w)] [] (zS1, zrow m 138 W, yy) (.inl (some (.int (q_word m W w).1))) (zS1, zrow ((q_word m W w).2) 138 W, yy) := by
  refine zeP rfl rfl ?_
  refine zeKn (c := 0) rfl rfl rfl ?_
  refine zeFP rfl rfl rfl ?_
  refine zeP rfl rfl ?_
  refine zeP rfl rfl ?_
  refine zeCF rfl rfl rfl rfl rfl rfl (c_noWord (m := (zm2 m 137 0 (Int32.ofNat 0))) (W := W) (w := w) ) (by omega) ?_
  dsimp only [Option.toList, List.cons_append, List.nil_append]
  refine zeB1 rfl rfl (fun h1 => ?_) (fun h1 => ?_)
  · have cw : w = Int32.ofNat w.toNatClampNeg ∧ w.toNatClampNeg < 32 := (nW_in (by assumption))
    refine zeP rfl rfl ?_
    refine zeGR rfl rfl zS137 rfl rfl ?_
    refine zeKn (c := 32) rfl rfl rfl ?_
    refine zeKn (c := w.toNatClampNeg) rfl rfl cw.1 ?_
    refine zeAdd rfl ?_
    refine zeWL (k := (32 + (w.toNatClampNeg))) rfl (by omega) ?_
    exact zeRe rfl rfl rfl rfl (by simp only [q_word, h1, cond_true, cond_false] <;> rfl) (by simp only [q_word, h1, cond_true, cond_false] <;> rfl)
  · refine zeKn (c := 0) rfl rfl rfl ?_
    refine zeP rfl rfl ?_
    exact zeRe rfl rfl rfl rfl (by simp only [q_word, h1, cond_true, cond_false] <;> rfl) (by simp only [q_word, h1, cond_true, cond_false] <;> rfl)
theorem c_word {σ : Nat → Nat × (Nat → Int32)} {yy : (Nat → Nat → Int64) × Bool × Nat × Nat} {m : Nat → Nat → Int32} {W : Nat → Int32} {w : Int32} : zF σ 3 1877 [.ref 137, .int w] (zS1, zrow m 138 W, yy) (.inl (some (.int (q_word m W w).1))) (zS1, zrow ((q_word m W w).2) 138 W, yy) := by
  intro d hd
  obtain ⟨d, rfl⟩ : ∃ k, d = k + 1 := ⟨d - 1, by omega⟩
  exact p_word hd 
noncomputable def q_sees (m : Nat → Nat → Int32) (W : Nat → Int32) (t : Int32) (w : Int32) : Int32 × (Nat → Nat → Int32) := (bif zc1 .ne (q_noThread m W t).1 then ((Int32.ofNat 0), (q_noThread m W t).2) else (bif zc1 .eq (q_noWord ((q_noThread m W t).2) w).1 then ((q_seen W ((t.toNatClampNeg)) ((w.toNatClampNeg))), (q_noWord ((q_noThread m W t).2) w).2) else ((Int32.ofNat 0), (q_noWord ((q_noThread m W t).2) w).2)))
theorem p_sees {σ : Nat → Nat × (Nat → Int32)} {yy : (Nat → Nat → Int64) × Bool × Nat × Nat} {m : Nat → Nat → Int32} {W : Nat → Int32} {t : Int32} {w : Int32} {d : Nat} (hd : 4 ≤ d + 1) (hw : WG W) : zEv σ (d + 1) 1878 0 [some (.ref 137), some (.int t), some (.int w)] [] (zS1, zrow m 138 W, yy) (.inl (some (.int (q_sees m W t w).1))) (zS1, zrow ((q_sees m W t w).2) 138 W, yy) := by
  refine zeP rfl rfl ?_
  refine zeP rfl rfl ?_
  refine zeCF rfl rfl rfl rfl rfl rfl (c_noThread (m := m) (W := W) (t := t) ) (by omega) ?_
  dsimp only [Option.toList, List.cons_append, List.nil_append]
  refine zeB1 rfl rfl (fun h1 => ?_) (fun h1 => ?_)
  · refine zeKn (c := 0) rfl rfl rfl ?_
    refine zeP rfl rfl ?_
    exact zeRe rfl rfl rfl rfl (by simp only [q_sees, h1, cond_true, cond_false] <;> rfl) (by simp only [q_sees, h1, cond_true, cond_false] <;> rfl)
  · have ct : t = Int32.ofNat t.toNatClampNeg ∧ t.toNatClampNeg < nv W 9 := (nT_in hw (by assumption))
    refine zeP rfl rfl ?_
    refine zeP rfl rfl ?_
    refine zeCF rfl rfl rfl rfl rfl rfl (c_noWord (m := (q_noThread m W t).2) (W := W) (w := w) ) (by omega) ?_
    dsimp only [Option.toList, List.cons_append, List.nil_append]
    refine zeB1 rfl rfl (fun h2 => ?_) (fun h2 => ?_)
    · have cw : w = Int32.ofNat w.toNatClampNeg ∧ w.toNatClampNeg < 32 := (nW_in (by assumption))
      refine zeP rfl rfl ?_
      refine zeKn (c := t.toNatClampNeg) rfl rfl ct.1 ?_
      refine zeKn (c := w.toNatClampNeg) rfl rfl cw.1 ?_
      refine zeCF rfl rfl rfl rfl rfl rfl (c_seen (m := (q_noWord ((q_noThread m W t).2) w).2) (W := W) (t := (t.toNatClampNeg)) (w := (w.toNatClampNeg)) (by have := hw.N4; omega) cw.2) (by omega) ?_
      dsimp only [Option.toList, List.cons_append, List.nil_append]
      exact zeRe rfl rfl rfl rfl (by simp only [q_sees, h1, h2, cond_true, cond_false] <;> rfl) (by simp only [q_sees, h1, h2, cond_true, cond_false] <;> rfl)
    · refine zeKn (c := 0) rfl rfl rfl ?_
      refine zeP rfl rfl ?_
      exact zeRe rfl rfl rfl rfl (by simp only [q_sees, h1, h2, cond_true, cond_false] <;> rfl) (by simp only [q_sees, h1, h2, cond_true, cond_false] <;> rfl)
theorem c_sees {σ : Nat → Nat × (Nat → Int32)} {yy : (Nat → Nat → Int64) × Bool × Nat × Nat} {m : Nat → Nat → Int32} {W : Nat → Int32} {t : Int32} {w : Int32} (hw : WG W) : zF σ 4 1878 [.ref 137, .int t, .int w] (zS1, zrow m 138 W, yy) (.inl (some (.int (q_sees m W t w).1))) (zS1, zrow ((q_sees m W t w).2) 138 W, yy) := by
  intro d hd
  obtain ⟨d, rfl⟩ : ∃ k, d = k + 1 := ⟨d - 1, by omega⟩
  exact p_sees hd hw
noncomputable def l_leavers (W : Nat → Int32) (l : Int32) : Nat → Int32 → Nat → Int32
  | 0, c, k => c
  | n + 1, c, k => (bif zc2 .ne (q_placeLeft W k l) (-1) then (l_leavers W l n ((c + (Int32.ofNat 1))) ((k + 1))) else (l_leavers W l n ((c + (Int32.ofNat 0))) ((k + 1))))
theorem w_leavers {σ : Nat → Nat × (Nat → Int32)} {yy : (Nat → Nat → Int64) × Bool × Nat × Nat} {m : Nat → Nat → Int32} {W : Nat → Int32} {l : Int32} {d : Nat} (hd : 4 ≤ d + 1) (hw : WG W) (hN4 : nv W 9 ≤ 4) : ∀ (n : Nat) (c : Int32) (k : Nat), k + n = nv W 9 → zEv σ (d + 1) 1879 4 [some (.ref 137), some (.int l), some (.int c), some (.int (Int32.ofNat k))] [] (zS1, zrow m 138 W, yy) (.inl (some (.int (l_leavers W l n c k)))) (zS1, zrow m 138 W, yy) := by
  intro n
  induction n with
  | zero =>
    intro c k hk
    refine zeP rfl rfl ?_
    refine zeP rfl rfl ?_
    refine zeCF rfl rfl rfl rfl rfl rfl (c_threads (m := m) (W := W)  ) (by omega) ?_
    dsimp only [Option.toList, List.cons_append, List.nil_append]
    rw [show q_threads W = Int32.ofNat (nv W 9) from hw.N]
    refine zeT2 rfl rfl (zcge (by omega) (by omega) (by omega)) ?_
    refine zeP rfl rfl ?_
    exact zeRe rfl rfl rfl rfl (by rfl) (by rfl)
  | succ n ih =>
    intro c k hk
    refine zeP rfl rfl ?_
    refine zeP rfl rfl ?_
    refine zeCF rfl rfl rfl rfl rfl rfl (c_threads (m := m) (W := W)  ) (by omega) ?_
    dsimp only [Option.toList, List.cons_append, List.nil_append]
    rw [show q_threads W = Int32.ofNat (nv W 9) from hw.N]
    refine zeF2 rfl rfl (zcge_f (by omega) (by omega) (by omega)) ?_
    refine zeP rfl rfl ?_
    refine zeP rfl rfl ?_
    refine zeP rfl rfl ?_
    refine zeP rfl rfl ?_
    refine zeCF rfl rfl rfl rfl rfl rfl (c_placeLeft (m := m) (W := W) (t := k) (l := l) (by have := hw.N4; omega) (hw.2 k (by have := hw.N4; omega)).2.1.1 (hw.2 k (by have := hw.N4; omega)).2.1.2.2) (by omega) ?_
    dsimp only [Option.toList, List.cons_append, List.nil_append]
    refine zeK (v := -1) rfl rfl rfl ?_
    refine zeB2 rfl rfl (fun h1 => ?_) (fun h1 => ?_)
    · refine zeKn (c := 1) rfl rfl rfl ?_
      refine zeP rfl rfl ?_
      refine zeP rfl rfl ?_
      refine zeInc rfl rfl ?_
      refine zeP rfl rfl ?_
      simp only [l_leavers, h1, cond_true, cond_false]
      exact ih ((c + (Int32.ofNat 1))) ((k + 1))   (by omega) 
    · refine zeKn (c := 0) rfl rfl rfl ?_
      refine zeP rfl rfl ?_
      refine zeP rfl rfl ?_
      refine zeP rfl rfl ?_
      refine zeInc rfl rfl ?_
      refine zeP rfl rfl ?_
      simp only [l_leavers, h1, cond_true, cond_false]
      exact ih ((c + (Int32.ofNat 0))) ((k + 1))   (by omega) 
noncomputable def q_leavers (W : Nat → Int32) (l : Int32) : Int32 := (l_leavers W l ((nv W 9)) ((Int32.ofNat 0)) 0)
theorem p_leavers {σ : Nat → Nat × (Nat → Int32)} {yy : (Nat → Nat → Int64) × Bool × Nat × Nat} {m : Nat → Nat → Int32} {W : Nat → Int32} {l : Int32} {d : Nat} (hd : 4 ≤ d + 1) (hw : WG W) : zEv σ (d + 1) 1879 0 [some (.ref 137), some (.int l), none, none] [] (zS1, zrow m 138 W, yy) (.inl (some (.int (q_leavers W l)))) (zS1, zrow m 138 W, yy) := by
  refine zeKn (c := 0) rfl rfl rfl ?_
  refine zeP rfl rfl ?_
  refine zeKn (c := 0) rfl rfl rfl ?_
  refine zeP rfl rfl ?_
  simp only [q_leavers, cond_true, cond_false]
  exact w_leavers (l := l) (W := W) (m := m) (by omega) hw hw.N4 ((nv W 9)) ((Int32.ofNat 0)) (0)   (by omega) 
theorem c_leavers {σ : Nat → Nat × (Nat → Int32)} {yy : (Nat → Nat → Int64) × Bool × Nat × Nat} {m : Nat → Nat → Int32} {W : Nat → Int32} {l : Int32} (hw : WG W) : zF σ 4 1879 [.ref 137, .int l] (zS1, zrow m 138 W, yy) (.inl (some (.int (q_leavers W l)))) (zS1, zrow m 138 W, yy) := by
  intro d hd
  obtain ⟨d, rfl⟩ : ∃ k, d = k + 1 := ⟨d - 1, by omega⟩
  exact p_leavers hd hw
noncomputable def l_guessing (W : Nat → Int32) : Nat → Int32 → Nat → Int32
  | 0, s, k => s
  | n + 1, s, k => (l_guessing W n ((s ||| ((q_of W k 2) <<< ((Int32.ofNat k) &&& 31)))) ((k + 1)))
theorem w_guessing {σ : Nat → Nat × (Nat → Int32)} {yy : (Nat → Nat → Int64) × Bool × Nat × Nat} {m : Nat → Nat → Int32} {W : Nat → Int32} {d : Nat} (hd : 3 ≤ d + 1) (hw : WG W) (hN4 : nv W 9 ≤ 4) : ∀ (n : Nat) (s : Int32) (k : Nat), k + n = nv W 9 → zEv σ (d + 1) 1885 4 [some (.ref 137), some (.int s), some (.int (Int32.ofNat k))] [] (zS1, zrow m 138 W, yy) (.inl (some (.int (l_guessing W n s k)))) (zS1, zrow m 138 W, yy) := by
  intro n
  induction n with
  | zero =>
    intro s k hk
    refine zeP rfl rfl ?_
    refine zeP rfl rfl ?_
    refine zeCF rfl rfl rfl rfl rfl rfl (c_threads (m := m) (W := W)  ) (by omega) ?_
    dsimp only [Option.toList, List.cons_append, List.nil_append]
    rw [show q_threads W = Int32.ofNat (nv W 9) from hw.N]
    refine zeT2 rfl rfl (zcge (by omega) (by omega) (by omega)) ?_
    refine zeP rfl rfl ?_
    exact zeRe rfl rfl rfl rfl (by rfl) (by rfl)
  | succ n ih =>
    intro s k hk
    refine zeP rfl rfl ?_
    refine zeP rfl rfl ?_
    refine zeCF rfl rfl rfl rfl rfl rfl (c_threads (m := m) (W := W)  ) (by omega) ?_
    dsimp only [Option.toList, List.cons_append, List.nil_append]
    rw [show q_threads W = Int32.ofNat (nv W 9) from hw.N]
    refine zeF2 rfl rfl (zcge_f (by omega) (by omega) (by omega)) ?_
    refine zeP rfl rfl ?_
    refine zeP rfl rfl ?_
    refine zeP rfl rfl ?_
    refine zeKn (c := 2) rfl rfl rfl ?_
    refine zeCF rfl rfl rfl rfl rfl rfl (c_of (m := m) (W := W) (t := k) (k := 2) (by omega)) (by omega) ?_
    dsimp only [Option.toList, List.cons_append, List.nil_append]
    refine zeP rfl rfl ?_
    refine zeP rfl rfl ?_
    refine zeP rfl rfl ?_
    refine zeP rfl rfl ?_
    refine zeInc rfl rfl ?_
    refine zeP rfl rfl ?_
    simp only [l_guessing, cond_true, cond_false]
    exact ih ((s ||| ((q_of W k 2) <<< ((Int32.ofNat k) &&& 31)))) ((k + 1))   (by omega) 
noncomputable def q_guessing (W : Nat → Int32) : Int32 := (l_guessing W ((nv W 9)) ((Int32.ofNat 0)) 0)
theorem p_guessing {σ : Nat → Nat × (Nat → Int32)} {yy : (Nat → Nat → Int64) × Bool × Nat × Nat} {m : Nat → Nat → Int32} {W : Nat → Int32} {d : Nat} (hd : 3 ≤ d + 1) (hw : WG W) : zEv σ (d + 1) 1885 0 [some (.ref 137), none, none] [] (zS1, zrow m 138 W, yy) (.inl (some (.int (q_guessing W)))) (zS1, zrow m 138 W, yy) := by
  refine zeKn (c := 0) rfl rfl rfl ?_
  refine zeP rfl rfl ?_
  refine zeKn (c := 0) rfl rfl rfl ?_
  refine zeP rfl rfl ?_
  simp only [q_guessing, cond_true, cond_false]
  exact w_guessing  (W := W) (m := m) (by omega) hw hw.N4 ((nv W 9)) ((Int32.ofNat 0)) (0)   (by omega) 
theorem c_guessing {σ : Nat → Nat × (Nat → Int32)} {yy : (Nat → Nat → Int64) × Bool × Nat × Nat} {m : Nat → Nat → Int32} {W : Nat → Int32} (hw : WG W) : zF σ 3 1885 [.ref 137] (zS1, zrow m 138 W, yy) (.inl (some (.int (q_guessing W)))) (zS1, zrow m 138 W, yy) := by
  intro d hd
  obtain ⟨d, rfl⟩ : ∃ k, d = k + 1 := ⟨d - 1, by omega⟩
  exact p_guessing hd hw
noncomputable def l_keptAll (W : Nat → Int32) : Nat → Int32 → Nat → Int32
  | 0, s, k => s
  | n + 1, s, k => (l_keptAll W n ((s + (q_of W k 4))) ((k + 1)))
theorem w_keptAll {σ : Nat → Nat × (Nat → Int32)} {yy : (Nat → Nat → Int64) × Bool × Nat × Nat} {m : Nat → Nat → Int32} {W : Nat → Int32} {d : Nat} (hd : 3 ≤ d + 1) (hw : WG W) (hN4 : nv W 9 ≤ 4) : ∀ (n : Nat) (s : Int32) (k : Nat), k + n = nv W 9 → zEv σ (d + 1) 1886 4 [some (.ref 137), some (.int s), some (.int (Int32.ofNat k))] [] (zS1, zrow m 138 W, yy) (.inl (some (.int (l_keptAll W n s k)))) (zS1, zrow m 138 W, yy) := by
  intro n
  induction n with
  | zero =>
    intro s k hk
    refine zeP rfl rfl ?_
    refine zeP rfl rfl ?_
    refine zeCF rfl rfl rfl rfl rfl rfl (c_threads (m := m) (W := W)  ) (by omega) ?_
    dsimp only [Option.toList, List.cons_append, List.nil_append]
    rw [show q_threads W = Int32.ofNat (nv W 9) from hw.N]
    refine zeT2 rfl rfl (zcge (by omega) (by omega) (by omega)) ?_
    refine zeP rfl rfl ?_
    exact zeRe rfl rfl rfl rfl (by rfl) (by rfl)
  | succ n ih =>
    intro s k hk
    refine zeP rfl rfl ?_
    refine zeP rfl rfl ?_
    refine zeCF rfl rfl rfl rfl rfl rfl (c_threads (m := m) (W := W)  ) (by omega) ?_
    dsimp only [Option.toList, List.cons_append, List.nil_append]
    rw [show q_threads W = Int32.ofNat (nv W 9) from hw.N]
    refine zeF2 rfl rfl (zcge_f (by omega) (by omega) (by omega)) ?_
    refine zeP rfl rfl ?_
    refine zeP rfl rfl ?_
    refine zeP rfl rfl ?_
    refine zeKn (c := 4) rfl rfl rfl ?_
    refine zeCF rfl rfl rfl rfl rfl rfl (c_of (m := m) (W := W) (t := k) (k := 4) (by omega)) (by omega) ?_
    dsimp only [Option.toList, List.cons_append, List.nil_append]
    refine zeP rfl rfl ?_
    refine zeP rfl rfl ?_
    refine zeInc rfl rfl ?_
    refine zeP rfl rfl ?_
    simp only [l_keptAll, cond_true, cond_false]
    exact ih ((s + (q_of W k 4))) ((k + 1))   (by omega) 
noncomputable def q_keptAll (W : Nat → Int32) : Int32 := (l_keptAll W ((nv W 9)) ((Int32.ofNat 0)) 0)
theorem p_keptAll {σ : Nat → Nat × (Nat → Int32)} {yy : (Nat → Nat → Int64) × Bool × Nat × Nat} {m : Nat → Nat → Int32} {W : Nat → Int32} {d : Nat} (hd : 3 ≤ d + 1) (hw : WG W) : zEv σ (d + 1) 1886 0 [some (.ref 137), none, none] [] (zS1, zrow m 138 W, yy) (.inl (some (.int (q_keptAll W)))) (zS1, zrow m 138 W, yy) := by
  refine zeKn (c := 0) rfl rfl rfl ?_
  refine zeP rfl rfl ?_
  refine zeKn (c := 0) rfl rfl rfl ?_
  refine zeP rfl rfl ?_
  simp only [q_keptAll, cond_true, cond_false]
  exact w_keptAll  (W := W) (m := m) (by omega) hw hw.N4 ((nv W 9)) ((Int32.ofNat 0)) (0)   (by omega) 
theorem c_keptAll {σ : Nat → Nat × (Nat → Int32)} {yy : (Nat → Nat → Int64) × Bool × Nat × Nat} {m : Nat → Nat → Int32} {W : Nat → Int32} (hw : WG W) : zF σ 3 1886 [.ref 137] (zS1, zrow m 138 W, yy) (.inl (some (.int (q_keptAll W)))) (zS1, zrow m 138 W, yy) := by
  intro d hd
  obtain ⟨d, rfl⟩ : ∃ k, d = k + 1 := ⟨d - 1, by omega⟩
  exact p_keptAll hd hw
noncomputable def l_heldLocks (W : Nat → Int32) : Nat → Int32 → Nat → Int32
  | 0, s, k => s
  | n + 1, s, k => (bif zc1 .ne (W (32 + (nv W (16 + k)))) then (l_heldLocks W n ((s ||| ((Int32.ofNat 1) <<< ((Int32.ofNat k) &&& 31)))) ((k + 1))) else (l_heldLocks W n ((s ||| (Int32.ofNat 0))) ((k + 1))))
theorem w_heldLocks {σ : Nat → Nat × (Nat → Int32)} {yy : (Nat → Nat → Int64) × Bool × Nat × Nat} {m : Nat → Nat → Int32} {W : Nat → Int32} {d : Nat} (hd : 1 ≤ d + 1) (hw : WG W) : ∀ (n : Nat) (s : Int32) (k : Nat), k + n = 4 → zEv σ (d + 1) 1887 4 [some (.ref 137), some (.int s), some (.int (Int32.ofNat k))] [] (zS1, zrow m 138 W, yy) (.inl (some (.int (l_heldLocks W n s k)))) (zS1, zrow m 138 W, yy) := by
  intro n
  induction n with
  | zero =>
    intro s k hk
    refine zeP rfl rfl ?_
    refine zeKn (c := 4) rfl rfl rfl ?_
    refine zeT2 rfl rfl (zcge (by omega) (by omega) (by omega)) ?_
    refine zeP rfl rfl ?_
    exact zeRe rfl rfl rfl rfl (by rfl) (by rfl)
  | succ n ih =>
    intro s k hk
    refine zeP rfl rfl ?_
    refine zeKn (c := 4) rfl rfl rfl ?_
    refine zeF2 rfl rfl (zcge_f (by omega) (by omega) (by omega)) ?_
    refine zeP rfl rfl ?_
    refine zeP rfl rfl ?_
    refine zeGR rfl rfl zS137 rfl rfl ?_
    refine zeKn (c := 32) rfl rfl rfl ?_
    refine zeP rfl rfl ?_
    refine zeGR rfl rfl zS137 rfl rfl ?_
    refine zeKn (c := 16) rfl rfl rfl ?_
    refine zeP rfl rfl ?_
    refine zeAdd rfl ?_
    refine zeWL (k := (16 + k)) rfl (by omega) ?_
    rw [(hw.lkw (l := k) (by omega)).1]
    refine zeAdd rfl ?_
    refine zeWL (k := (32 + (nv W (16 + k)))) rfl (by have := hw.lk32 (l := k) (by omega); omega) ?_
    refine zeB1 rfl rfl (fun h1 => ?_) (fun h1 => ?_)
    · refine zeKn (c := 1) rfl rfl rfl ?_
      refine zeP rfl rfl ?_
      refine zeP rfl rfl ?_
      refine zeP rfl rfl ?_
      refine zeP rfl rfl ?_
      refine zeInc rfl rfl ?_
      refine zeP rfl rfl ?_
      simp only [l_heldLocks, h1, cond_true, cond_false]
      exact ih ((s ||| ((Int32.ofNat 1) <<< ((Int32.ofNat k) &&& 31)))) ((k + 1))   (by omega) 
    · refine zeKn (c := 0) rfl rfl rfl ?_
      refine zeP rfl rfl ?_
      refine zeP rfl rfl ?_
      refine zeP rfl rfl ?_
      refine zeInc rfl rfl ?_
      refine zeP rfl rfl ?_
      simp only [l_heldLocks, h1, cond_true, cond_false]
      exact ih ((s ||| (Int32.ofNat 0))) ((k + 1))   (by omega) 
noncomputable def q_heldLocks (W : Nat → Int32) : Int32 := (l_heldLocks W 4 ((Int32.ofNat 0)) 0)
theorem p_heldLocks {σ : Nat → Nat × (Nat → Int32)} {yy : (Nat → Nat → Int64) × Bool × Nat × Nat} {m : Nat → Nat → Int32} {W : Nat → Int32} {d : Nat} (hd : 1 ≤ d + 1) (hw : WG W) : zEv σ (d + 1) 1887 0 [some (.ref 137), none, none] [] (zS1, zrow m 138 W, yy) (.inl (some (.int (q_heldLocks W)))) (zS1, zrow m 138 W, yy) := by
  refine zeKn (c := 0) rfl rfl rfl ?_
  refine zeP rfl rfl ?_
  refine zeKn (c := 0) rfl rfl rfl ?_
  refine zeP rfl rfl ?_
  simp only [q_heldLocks, cond_true, cond_false]
  exact w_heldLocks  (W := W) (m := m) (by omega) hw 4 ((Int32.ofNat 0)) (0)   (by omega) 
theorem c_heldLocks {σ : Nat → Nat × (Nat → Int32)} {yy : (Nat → Nat → Int64) × Bool × Nat × Nat} {m : Nat → Nat → Int32} {W : Nat → Int32} (hw : WG W) : zF σ 1 1887 [.ref 137] (zS1, zrow m 138 W, yy) (.inl (some (.int (q_heldLocks W)))) (zS1, zrow m 138 W, yy) := by
  intro d hd
  obtain ⟨d, rfl⟩ : ∃ k, d = k + 1 := ⟨d - 1, by omega⟩
  exact p_heldLocks hd hw
noncomputable def q_count (m : Nat → Nat → Int32) (W : Nat → Int32) (x : Int32) : Int32 × (Nat → Nat → Int32) := (bif decide (x = Int32.ofNat 0) then ((q_threads W), (zm2 m 137 0 (Int32.ofNat 0))) else (bif decide (x = Int32.ofNat 1) then ((W 10), (zm2 m 137 0 (Int32.ofNat 0))) else (bif decide (x = Int32.ofNat 2) then ((W 11), (zm2 m 137 0 (Int32.ofNat 0))) else (bif decide (x = Int32.ofNat 3) then ((q_doneOnes W), (zm2 m 137 0 (Int32.ofNat 0))) else (bif decide (x = Int32.ofNat 4) then ((q_guessing W), (zm2 m 137 0 (Int32.ofNat 0))) else (bif decide (x = Int32.ofNat 5) then ((q_keptAll W), (zm2 m 137 0 (Int32.ofNat 0))) else (bif decide (x = Int32.ofNat 6) then ((q_heldLocks W), (zm2 m 137 0 (Int32.ofNat 0))) else (bif decide (x = Int32.ofNat 7) then ((W 14), (zm2 m 137 0 (Int32.ofNat 0))) else (bif decide (x = Int32.ofNat 8) then ((W 15), (zm2 m 137 0 (Int32.ofNat 0))) else (bif decide (x = Int32.ofNat 9) then ((W 12), (zm2 m 137 0 (Int32.ofNat 0))) else ((-1), (zm2 m 137 0 (Int32.ofNat 0)))))))))))))
theorem p_count {σ : Nat → Nat × (Nat → Int32)} {yy : (Nat → Nat → Int64) × Bool × Nat × Nat} {m : Nat → Nat → Int32} {W : Nat → Int32} {x : Int32} {d : Nat} (hd : 5 ≤ d + 1) (hw : WG W) : zEv σ (d + 1) 1888 0 [some (.ref 137), some (.int x)] [] (zS1, zrow m 138 W, yy) (.inl (some (.int (q_count m W x).1))) (zS1, zrow ((q_count m W x).2) 138 W, yy) := by
  refine zeP rfl rfl ?_
  refine zeKn (c := 0) rfl rfl rfl ?_
  refine zeFP rfl rfl rfl ?_
  refine zeP rfl rfl ?_
  cases h1 : decide (x = Int32.ofNat 0) with
  | true =>
    refine zeSw (K := 0) rfl (of_decide_eq_true h1) rfl ?_
    refine zeP rfl rfl ?_
    refine zeCF rfl rfl rfl rfl rfl rfl (c_threads (m := (zm2 m 137 0 (Int32.ofNat 0))) (W := W)  ) (by omega) ?_
    dsimp only [Option.toList, List.cons_append, List.nil_append]
    exact zeRe rfl rfl rfl rfl (by simp only [q_count, h1, cond_true, cond_false] <;> rfl) (by simp only [q_count, h1, cond_true, cond_false] <;> rfl)
  | false =>
    cases h2 : decide (x = Int32.ofNat 1) with
    | true =>
      refine zeSw (K := 1) rfl (of_decide_eq_true h2) rfl ?_
      refine zeP rfl rfl ?_
      refine zeGR rfl rfl zS137 rfl rfl ?_
      refine zeKn (c := 10) rfl rfl rfl ?_
      refine zeWL (k := 10) rfl (by omega) ?_
      exact zeRe rfl rfl rfl rfl (by simp only [q_count, h1, h2, cond_true, cond_false] <;> rfl) (by simp only [q_count, h1, h2, cond_true, cond_false] <;> rfl)
    | false =>
      cases h3 : decide (x = Int32.ofNat 2) with
      | true =>
        refine zeSw (K := 2) rfl (of_decide_eq_true h3) rfl ?_
        refine zeP rfl rfl ?_
        refine zeGR rfl rfl zS137 rfl rfl ?_
        refine zeKn (c := 11) rfl rfl rfl ?_
        refine zeWL (k := 11) rfl (by omega) ?_
        exact zeRe rfl rfl rfl rfl (by simp only [q_count, h1, h2, h3, cond_true, cond_false] <;> rfl) (by simp only [q_count, h1, h2, h3, cond_true, cond_false] <;> rfl)
      | false =>
        cases h4 : decide (x = Int32.ofNat 3) with
        | true =>
          refine zeSw (K := 3) rfl (of_decide_eq_true h4) rfl ?_
          refine zeP rfl rfl ?_
          refine zeCF rfl rfl rfl rfl rfl rfl (c_doneOnes (m := (zm2 m 137 0 (Int32.ofNat 0))) (W := W)  hw.N hw.N4) (by omega) ?_
          dsimp only [Option.toList, List.cons_append, List.nil_append]
          exact zeRe rfl rfl rfl rfl (by simp only [q_count, h1, h2, h3, h4, cond_true, cond_false] <;> rfl) (by simp only [q_count, h1, h2, h3, h4, cond_true, cond_false] <;> rfl)
        | false =>
          cases h5 : decide (x = Int32.ofNat 4) with
          | true =>
            refine zeSw (K := 4) rfl (of_decide_eq_true h5) rfl ?_
            refine zeP rfl rfl ?_
            refine zeCF rfl rfl rfl rfl rfl rfl (c_guessing (m := (zm2 m 137 0 (Int32.ofNat 0))) (W := W)  hw) (by omega) ?_
            dsimp only [Option.toList, List.cons_append, List.nil_append]
            exact zeRe rfl rfl rfl rfl (by simp only [q_count, h1, h2, h3, h4, h5, cond_true, cond_false] <;> rfl) (by simp only [q_count, h1, h2, h3, h4, h5, cond_true, cond_false] <;> rfl)
          | false =>
            cases h6 : decide (x = Int32.ofNat 5) with
            | true =>
              refine zeSw (K := 5) rfl (of_decide_eq_true h6) rfl ?_
              refine zeP rfl rfl ?_
              refine zeCF rfl rfl rfl rfl rfl rfl (c_keptAll (m := (zm2 m 137 0 (Int32.ofNat 0))) (W := W)  hw) (by omega) ?_
              dsimp only [Option.toList, List.cons_append, List.nil_append]
              exact zeRe rfl rfl rfl rfl (by simp only [q_count, h1, h2, h3, h4, h5, h6, cond_true, cond_false] <;> rfl) (by simp only [q_count, h1, h2, h3, h4, h5, h6, cond_true, cond_false] <;> rfl)
            | false =>
              cases h7 : decide (x = Int32.ofNat 6) with
              | true =>
                refine zeSw (K := 6) rfl (of_decide_eq_true h7) rfl ?_
                refine zeP rfl rfl ?_
                refine zeCF rfl rfl rfl rfl rfl rfl (c_heldLocks (m := (zm2 m 137 0 (Int32.ofNat 0))) (W := W)  hw) (by omega) ?_
                dsimp only [Option.toList, List.cons_append, List.nil_append]
                exact zeRe rfl rfl rfl rfl (by simp only [q_count, h1, h2, h3, h4, h5, h6, h7, cond_true, cond_false] <;> rfl) (by simp only [q_count, h1, h2, h3, h4, h5, h6, h7, cond_true, cond_false] <;> rfl)
              | false =>
                cases h8 : decide (x = Int32.ofNat 7) with
                | true =>
                  refine zeSw (K := 7) rfl (of_decide_eq_true h8) rfl ?_
                  refine zeP rfl rfl ?_
                  refine zeGR rfl rfl zS137 rfl rfl ?_
                  refine zeKn (c := 14) rfl rfl rfl ?_
                  refine zeWL (k := 14) rfl (by omega) ?_
                  exact zeRe rfl rfl rfl rfl (by simp only [q_count, h1, h2, h3, h4, h5, h6, h7, h8, cond_true, cond_false] <;> rfl) (by simp only [q_count, h1, h2, h3, h4, h5, h6, h7, h8, cond_true, cond_false] <;> rfl)
                | false =>
                  cases h9 : decide (x = Int32.ofNat 8) with
                  | true =>
                    refine zeSw (K := 8) rfl (of_decide_eq_true h9) rfl ?_
                    refine zeP rfl rfl ?_
                    refine zeGR rfl rfl zS137 rfl rfl ?_
                    refine zeKn (c := 15) rfl rfl rfl ?_
                    refine zeWL (k := 15) rfl (by omega) ?_
                    exact zeRe rfl rfl rfl rfl (by simp only [q_count, h1, h2, h3, h4, h5, h6, h7, h8, h9, cond_true, cond_false] <;> rfl) (by simp only [q_count, h1, h2, h3, h4, h5, h6, h7, h8, h9, cond_true, cond_false] <;> rfl)
                  | false =>
                    cases h10 : decide (x = Int32.ofNat 9) with
                    | true =>
                      refine zeSw (K := 9) rfl (of_decide_eq_true h10) rfl ?_
                      refine zeP rfl rfl ?_
                      refine zeGR rfl rfl zS137 rfl rfl ?_
                      refine zeKn (c := 12) rfl rfl rfl ?_
                      refine zeWL (k := 12) rfl (by omega) ?_
                      exact zeRe rfl rfl rfl rfl (by simp only [q_count, h1, h2, h3, h4, h5, h6, h7, h8, h9, h10, cond_true, cond_false] <;> rfl) (by simp only [q_count, h1, h2, h3, h4, h5, h6, h7, h8, h9, h10, cond_true, cond_false] <;> rfl)
                    | false =>
                      refine zeSwD rfl (zsw9 (of_decide_eq_false h1) (of_decide_eq_false h2) (of_decide_eq_false h3) (of_decide_eq_false h4) (of_decide_eq_false h5) (of_decide_eq_false h6) (of_decide_eq_false h7) (of_decide_eq_false h8) (of_decide_eq_false h9) (of_decide_eq_false h10)) rfl ?_
                      refine zeK (v := -1) rfl rfl rfl ?_
                      exact zeRe rfl rfl rfl rfl (by simp only [q_count, h1, h2, h3, h4, h5, h6, h7, h8, h9, h10, cond_true, cond_false] <;> rfl) (by simp only [q_count, h1, h2, h3, h4, h5, h6, h7, h8, h9, h10, cond_true, cond_false] <;> rfl)
theorem c_count {σ : Nat → Nat × (Nat → Int32)} {yy : (Nat → Nat → Int64) × Bool × Nat × Nat} {m : Nat → Nat → Int32} {W : Nat → Int32} {x : Int32} (hw : WG W) : zF σ 5 1888 [.ref 137, .int x] (zS1, zrow m 138 W, yy) (.inl (some (.int (q_count m W x).1))) (zS1, zrow ((q_count m W x).2) 138 W, yy) := by
  intro d hd
  obtain ⟨d, rfl⟩ : ∃ k, d = k + 1 := ⟨d - 1, by omega⟩
  exact p_count hd hw
noncomputable def q_deed (m : Nat → Nat → Int32) (W : Nat → Int32) (t : Int32) (p : Int32) (x : Int32) : Int32 × (Nat → Nat → Int32) := (bif zc1 .ne (q_noThread m W t).1 then ((Int32.ofNat 0), (q_noThread m W t).2) else (bif zc1 .ne (q_in x ((Int32.ofNat 0)) ((Int32.ofNat 1))) then (bif zc1 .eq (q_in p ((Int32.ofNat 0)) (((Int32.ofNat (nv W (376 + 103 * t.toNatClampNeg + 22))) - (Int32.ofNat 1)))) then ((-1), (q_noThread m W t).2) else ((q_deedOf W ((t.toNatClampNeg)) ((p.toNatClampNeg)) ((x.toNatClampNeg))), (q_noThread m W t).2)) else ((Int32.ofNat 0), (q_thr1 ((q_noThread m W t).2) 2).2)))
theorem p_deed {σ : Nat → Nat × (Nat → Int32)} {yy : (Nat → Nat → Int64) × Bool × Nat × Nat} {m : Nat → Nat → Int32} {W : Nat → Int32} {t : Int32} {p : Int32} {x : Int32} {d : Nat} (hd : 4 ≤ d + 1) (hw : WG W) : zEv σ (d + 1) 1882 0 [some (.ref 137), some (.int t), some (.int p), some (.int x)] [] (zS1, zrow m 138 W, yy) (.inl (some (.int (q_deed m W t p x).1))) (zS1, zrow ((q_deed m W t p x).2) 138 W, yy) := by
  refine zeP rfl rfl ?_
  refine zeP rfl rfl ?_
  refine zeCF rfl rfl rfl rfl rfl rfl (c_noThread (m := m) (W := W) (t := t) ) (by omega) ?_
  dsimp only [Option.toList, List.cons_append, List.nil_append]
  refine zeB1 rfl rfl (fun h1 => ?_) (fun h1 => ?_)
  · refine zeKn (c := 0) rfl rfl rfl ?_
    exact zeRe rfl rfl rfl rfl (by simp only [q_deed, h1, cond_true, cond_false] <;> rfl) (by simp only [q_deed, h1, cond_true, cond_false] <;> rfl)
  · have ct : t = Int32.ofNat t.toNatClampNeg ∧ t.toNatClampNeg < nv W 9 := (nT_in hw (by assumption))
    refine zeP rfl rfl ?_
    refine zeP rfl rfl ?_
    refine zeKn (c := 0) rfl rfl rfl ?_
    refine zeKn (c := 1) rfl rfl rfl ?_
    refine zeCF rfl rfl rfl rfl rfl rfl (c_in (m := (q_noThread m W t).2) (W := W) (v := x) (lo := (Int32.ofNat 0)) (hi := (Int32.ofNat 1)) ) (by omega) ?_
    dsimp only [Option.toList, List.cons_append, List.nil_append]
    refine zeB1 rfl rfl (fun h2 => ?_) (fun h2 => ?_)
    · refine zeKn (c := 0) rfl rfl rfl ?_
      refine zeKn (c := 2) rfl rfl rfl ?_
      refine zeCF rfl rfl rfl rfl rfl rfl (c_thr0 (m := (q_noThread m W t).2) (W := W) (c := 2) ) (by omega) ?_
      dsimp only [Option.toList, List.cons_append, List.nil_append]
      refine zeT1 rfl rfl (show zc1 .eq (Int32.ofNat 0) = true by decide) ?_
      refine zeP rfl rfl ?_
      refine zeKn (c := 0) rfl rfl rfl ?_
      refine zeP rfl rfl ?_
      refine zeKn (c := t.toNatClampNeg) rfl rfl ct.1 ?_
      refine zeKn (c := 22) rfl rfl rfl ?_
      refine zeCF rfl rfl rfl rfl rfl rfl (c_of (m := (q_noThread m W t).2) (W := W) (t := (t.toNatClampNeg)) (k := 22) (by have := hw.N4; omega)) (by omega) ?_
      dsimp only [Option.toList, List.cons_append, List.nil_append]
      rw [show q_of W (t.toNatClampNeg) 22 = Int32.ofNat (nv W (376 + 103 * t.toNatClampNeg + 22)) from (hw.2 _ (by have := hw.N4; omega)).2.2.2.1.1]
      refine zeKn (c := 1) rfl rfl rfl ?_
      refine zeP rfl rfl ?_
      refine zeCF rfl rfl rfl rfl rfl rfl (c_in (m := (q_noThread m W t).2) (W := W) (v := p) (lo := (Int32.ofNat 0)) (hi := ((Int32.ofNat (nv W (376 + 103 * t.toNatClampNeg + 22))) - (Int32.ofNat 1))) ) (by omega) ?_
      dsimp only [Option.toList, List.cons_append, List.nil_append]
      refine zeB1 rfl rfl (fun h3 => ?_) (fun h3 => ?_)
      · refine zeK (v := -1) rfl rfl rfl ?_
        exact zeRe rfl rfl rfl rfl (by simp only [q_deed, h1, h2, h3, cond_true, cond_false] <;> rfl) (by simp only [q_deed, h1, h2, h3, cond_true, cond_false] <;> rfl)
      · have cx : x = Int32.ofNat x.toNatClampNeg ∧ (0 ≤ x.toNatClampNeg ∧ x.toNatClampNeg ≤ 1) := (in_1 (by omega) (by omega) (by assumption))
        have cp : p = Int32.ofNat p.toNatClampNeg ∧ p.toNatClampNeg < nv W (376 + 103 * t.toNatClampNeg + 22) := (in_n (by have := (hw.2 t.toNatClampNeg (by have := hw.N4; omega)).2.2.2.1.2.2; omega) (zne (by assumption)))
        refine zeP rfl rfl ?_
        refine zeKn (c := t.toNatClampNeg) rfl rfl ct.1 ?_
        refine zeKn (c := p.toNatClampNeg) rfl rfl cp.1 ?_
        refine zeKn (c := x.toNatClampNeg) rfl rfl cx.1 ?_
        refine zeCF rfl rfl rfl rfl rfl rfl (c_deedOf (m := (q_noThread m W t).2) (W := W) (t := (t.toNatClampNeg)) (p := (p.toNatClampNeg)) (k := (x.toNatClampNeg)) (by have := (hw.2 t.toNatClampNeg (by have := hw.N4; omega)).2.2.2.1.2.2; have := hw.N4; omega)) (by omega) ?_
        dsimp only [Option.toList, List.cons_append, List.nil_append]
        refine zeP rfl rfl ?_
        exact zeRe rfl rfl rfl rfl (by simp only [q_deed, h1, h2, h3, cond_true, cond_false] <;> rfl) (by simp only [q_deed, h1, h2, h3, cond_true, cond_false] <;> rfl)
    · refine zeKn (c := 1) rfl rfl rfl ?_
      refine zeP rfl rfl ?_
      refine zeKn (c := 2) rfl rfl rfl ?_
      refine zeCF rfl rfl rfl rfl rfl rfl (c_thr1 (m := (q_noThread m W t).2) (W := W) (c := 2) ) (by omega) ?_
      dsimp only [Option.toList, List.cons_append, List.nil_append]
      refine zeF1 rfl rfl (show zc1 .eq (Int32.ofNat 1) = false by decide) ?_
      refine zeKn (c := 0) rfl rfl rfl ?_
      exact zeRe rfl rfl rfl rfl (by simp only [q_deed, h1, h2, cond_true, cond_false] <;> rfl) (by simp only [q_deed, h1, h2, cond_true, cond_false] <;> rfl)
theorem c_deed {σ : Nat → Nat × (Nat → Int32)} {yy : (Nat → Nat → Int64) × Bool × Nat × Nat} {m : Nat → Nat → Int32} {W : Nat → Int32} {t : Int32} {p : Int32} {x : Int32} (hw : WG W) : zF σ 4 1882 [.ref 137, .int t, .int p, .int x] (zS1, zrow m 138 W, yy) (.inl (some (.int (q_deed m W t p x).1))) (zS1, zrow ((q_deed m W t p x).2) 138 W, yy) := by
  intro d hd
  obtain ⟨d, rfl⟩ : ∃ k, d = k + 1 := ⟨d - 1, by omega⟩
  exact p_deed hd hw
noncomputable def q_output (m : Nat → Nat → Int32) (W : Nat → Int32) (k : Int32) (x : Int32) : Int32 × (Nat → Nat → Int32) := (bif zc1 .ne (q_in x ((Int32.ofNat 0)) ((Int32.ofNat 1))) then (bif zc1 .eq (q_in k ((Int32.ofNat 0)) (((Int32.ofNat (nv W 14)) - (Int32.ofNat 1)))) then ((-1), (zm2 m 137 0 (Int32.ofNat 0))) else ((W ((96 + (2 * (k.toNatClampNeg))) + (x.toNatClampNeg))), (zm2 m 137 0 (Int32.ofNat 0)))) else ((Int32.ofNat 0), (q_thr1 ((zm2 m 137 0 (Int32.ofNat 0))) 1).2))
theorem p_output {σ : Nat → Nat × (Nat → Int32)} {yy : (Nat → Nat → Int64) × Bool × Nat × Nat} {m : Nat → Nat → Int32} {W : Nat → Int32} {k : Int32} {x : Int32} {d : Nat} (hd : 2 ≤ d + 1) (hw : WG W) : zEv σ (d + 1) 1883 0 [some (.ref 137), some (.int k), some (.int x)] [] (zS1, zrow m 138 W, yy) (.inl (some (.int (q_output m W k x).1))) (zS1, zrow ((q_output m W k x).2) 138 W, yy) := by
  refine zeP rfl rfl ?_
  refine zeKn (c := 0) rfl rfl rfl ?_
  refine zeFP rfl rfl rfl ?_
  refine zeP rfl rfl ?_
  refine zeP rfl rfl ?_
  refine zeKn (c := 0) rfl rfl rfl ?_
  refine zeKn (c := 1) rfl rfl rfl ?_
  refine zeCF rfl rfl rfl rfl rfl rfl (c_in (m := (zm2 m 137 0 (Int32.ofNat 0))) (W := W) (v := x) (lo := (Int32.ofNat 0)) (hi := (Int32.ofNat 1)) ) (by omega) ?_
  dsimp only [Option.toList, List.cons_append, List.nil_append]
  refine zeB1 rfl rfl (fun h1 => ?_) (fun h1 => ?_)
  · refine zeKn (c := 0) rfl rfl rfl ?_
    refine zeKn (c := 1) rfl rfl rfl ?_
    refine zeCF rfl rfl rfl rfl rfl rfl (c_thr0 (m := (zm2 m 137 0 (Int32.ofNat 0))) (W := W) (c := 1) ) (by omega) ?_
    dsimp only [Option.toList, List.cons_append, List.nil_append]
    refine zeT1 rfl rfl (show zc1 .eq (Int32.ofNat 0) = true by decide) ?_
    refine zeP rfl rfl ?_
    refine zeKn (c := 0) rfl rfl rfl ?_
    refine zeP rfl rfl ?_
    refine zeGR rfl rfl zS137 rfl rfl ?_
    refine zeKn (c := 14) rfl rfl rfl ?_
    refine zeWL (k := 14) rfl (by omega) ?_
    rw [hw.1.2.2.2.2.1.1]
    refine zeKn (c := 1) rfl rfl rfl ?_
    refine zeP rfl rfl ?_
    refine zeCF rfl rfl rfl rfl rfl rfl (c_in (m := (zm2 m 137 0 (Int32.ofNat 0))) (W := W) (v := k) (lo := (Int32.ofNat 0)) (hi := ((Int32.ofNat (nv W 14)) - (Int32.ofNat 1))) ) (by omega) ?_
    dsimp only [Option.toList, List.cons_append, List.nil_append]
    refine zeB1 rfl rfl (fun h2 => ?_) (fun h2 => ?_)
    · refine zeK (v := -1) rfl rfl rfl ?_
      exact zeRe rfl rfl rfl rfl (by simp only [q_output, h1, h2, cond_true, cond_false] <;> rfl) (by simp only [q_output, h1, h2, cond_true, cond_false] <;> rfl)
    · have cx : x = Int32.ofNat x.toNatClampNeg ∧ (0 ≤ x.toNatClampNeg ∧ x.toNatClampNeg ≤ 1) := (in_1 (by omega) (by omega) (by assumption))
      have ck : k = Int32.ofNat k.toNatClampNeg ∧ k.toNatClampNeg < nv W 14 := (in_n (by have := hw.1.2.2.2.2.1.2.2; omega) (zne (by assumption)))
      refine zeP rfl rfl ?_
      refine zeGR rfl rfl zS137 rfl rfl ?_
      refine zeKn (c := 96) rfl rfl rfl ?_
      refine zeKn (c := 2) rfl rfl rfl ?_
      refine zeKn (c := k.toNatClampNeg) rfl rfl ck.1 ?_
      refine zeMul rfl ?_
      refine zeAdd rfl ?_
      refine zeKn (c := x.toNatClampNeg) rfl rfl cx.1 ?_
      refine zeAdd rfl ?_
      refine zeWL (k := ((96 + (2 * (k.toNatClampNeg))) + (x.toNatClampNeg))) rfl (by have := hw.1.2.2.2.2.1.2.2; omega) ?_
      refine zeP rfl rfl ?_
      exact zeRe rfl rfl rfl rfl (by simp only [q_output, h1, h2, cond_true, cond_false] <;> rfl) (by simp only [q_output, h1, h2, cond_true, cond_false] <;> rfl)
  · refine zeKn (c := 1) rfl rfl rfl ?_
    refine zeP rfl rfl ?_
    refine zeKn (c := 1) rfl rfl rfl ?_
    refine zeCF rfl rfl rfl rfl rfl rfl (c_thr1 (m := (zm2 m 137 0 (Int32.ofNat 0))) (W := W) (c := 1) ) (by omega) ?_
    dsimp only [Option.toList, List.cons_append, List.nil_append]
    refine zeF1 rfl rfl (show zc1 .eq (Int32.ofNat 1) = false by decide) ?_
    refine zeKn (c := 0) rfl rfl rfl ?_
    exact zeRe rfl rfl rfl rfl (by simp only [q_output, h1, cond_true, cond_false] <;> rfl) (by simp only [q_output, h1, cond_true, cond_false] <;> rfl)
theorem c_output {σ : Nat → Nat × (Nat → Int32)} {yy : (Nat → Nat → Int64) × Bool × Nat × Nat} {m : Nat → Nat → Int32} {W : Nat → Int32} {k : Int32} {x : Int32} (hw : WG W) : zF σ 2 1883 [.ref 137, .int k, .int x] (zS1, zrow m 138 W, yy) (.inl (some (.int (q_output m W k x).1))) (zS1, zrow ((q_output m W k x).2) 138 W, yy) := by
  intro d hd
  obtain ⟨d, rfl⟩ : ∃ k, d = k + 1 := ⟨d - 1, by omega⟩
  exact p_output hd hw
noncomputable def q_log (m : Nat → Nat → Int32) (W : Nat → Int32) (k : Int32) (x : Int32) : Int32 × (Nat → Nat → Int32) := (bif zc1 .ne (q_in x ((Int32.ofNat 0)) ((Int32.ofNat 3))) then (bif zc1 .eq (q_in k ((Int32.ofNat 0)) (((Int32.ofNat (nv W 15)) - (Int32.ofNat 1)))) then ((-1), (zm2 m 137 0 (Int32.ofNat 0))) else ((W ((136 + (4 * (((nv W 15) - 1) - (k.toNatClampNeg)))) + (x.toNatClampNeg))), (zm2 m 137 0 (Int32.ofNat 0)))) else ((Int32.ofNat 0), (q_thr1 ((zm2 m 137 0 (Int32.ofNat 0))) 1).2))
theorem p_log {σ : Nat → Nat × (Nat → Int32)} {yy : (Nat → Nat → Int64) × Bool × Nat × Nat} {m : Nat → Nat → Int32} {W : Nat → Int32} {k : Int32} {x : Int32} {d : Nat} (hd : 2 ≤ d + 1) (hw : WG W) : zEv σ (d + 1) 1884 0 [some (.ref 137), some (.int k), some (.int x)] [] (zS1, zrow m 138 W, yy) (.inl (some (.int (q_log m W k x).1))) (zS1, zrow ((q_log m W k x).2) 138 W, yy) := by
  refine zeP rfl rfl ?_
  refine zeKn (c := 0) rfl rfl rfl ?_
  refine zeFP rfl rfl rfl ?_
  refine zeP rfl rfl ?_
  refine zeP rfl rfl ?_
  refine zeKn (c := 0) rfl rfl rfl ?_
  refine zeKn (c := 3) rfl rfl rfl ?_
  refine zeCF rfl rfl rfl rfl rfl rfl (c_in (m := (zm2 m 137 0 (Int32.ofNat 0))) (W := W) (v := x) (lo := (Int32.ofNat 0)) (hi := (Int32.ofNat 3)) ) (by omega) ?_
  dsimp only [Option.toList, List.cons_append, List.nil_append]
  refine zeB1 rfl rfl (fun h1 => ?_) (fun h1 => ?_)
  · refine zeKn (c := 0) rfl rfl rfl ?_
    refine zeKn (c := 1) rfl rfl rfl ?_
    refine zeCF rfl rfl rfl rfl rfl rfl (c_thr0 (m := (zm2 m 137 0 (Int32.ofNat 0))) (W := W) (c := 1) ) (by omega) ?_
    dsimp only [Option.toList, List.cons_append, List.nil_append]
    refine zeT1 rfl rfl (show zc1 .eq (Int32.ofNat 0) = true by decide) ?_
    refine zeP rfl rfl ?_
    refine zeKn (c := 0) rfl rfl rfl ?_
    refine zeP rfl rfl ?_
    refine zeGR rfl rfl zS137 rfl rfl ?_
    refine zeKn (c := 15) rfl rfl rfl ?_
    refine zeWL (k := 15) rfl (by omega) ?_
    rw [hw.C.1]
    refine zeKn (c := 1) rfl rfl rfl ?_
    refine zeP rfl rfl ?_
    refine zeCF rfl rfl rfl rfl rfl rfl (c_in (m := (zm2 m 137 0 (Int32.ofNat 0))) (W := W) (v := k) (lo := (Int32.ofNat 0)) (hi := ((Int32.ofNat (nv W 15)) - (Int32.ofNat 1))) ) (by omega) ?_
    dsimp only [Option.toList, List.cons_append, List.nil_append]
    refine zeB1 rfl rfl (fun h2 => ?_) (fun h2 => ?_)
    · refine zeK (v := -1) rfl rfl rfl ?_
      exact zeRe rfl rfl rfl rfl (by simp only [q_log, h1, h2, cond_true, cond_false] <;> rfl) (by simp only [q_log, h1, h2, cond_true, cond_false] <;> rfl)
    · have cx : x = Int32.ofNat x.toNatClampNeg ∧ (0 ≤ x.toNatClampNeg ∧ x.toNatClampNeg ≤ 3) := (in_1 (by omega) (by omega) (by assumption))
      have ck : k = Int32.ofNat k.toNatClampNeg ∧ k.toNatClampNeg < nv W 15 := (in_n (by have := hw.C.2; omega) (zne (by assumption)))
      refine zeP rfl rfl ?_
      refine zeGR rfl rfl zS137 rfl rfl ?_
      refine zeKn (c := 136) rfl rfl rfl ?_
      refine zeKn (c := 4) rfl rfl rfl ?_
      refine zeP rfl rfl ?_
      refine zeGR rfl rfl zS137 rfl rfl ?_
      refine zeKn (c := 15) rfl rfl rfl ?_
      refine zeWL (k := 15) rfl (by omega) ?_
      rw [hw.C.1]
      refine zeKn (c := 1) rfl rfl rfl ?_
      refine zeSub rfl (by omega) ?_
      refine zeKn (c := k.toNatClampNeg) rfl rfl ck.1 ?_
      refine zeSub rfl (by omega) ?_
      refine zeMul rfl ?_
      refine zeAdd rfl ?_
      refine zeKn (c := x.toNatClampNeg) rfl rfl cx.1 ?_
      refine zeAdd rfl ?_
      refine zeWL (k := ((136 + (4 * (((nv W 15) - 1) - (k.toNatClampNeg)))) + (x.toNatClampNeg))) rfl (by have := hw.C.2; omega) ?_
      refine zeP rfl rfl ?_
      exact zeRe rfl rfl rfl rfl (by simp only [q_log, h1, h2, cond_true, cond_false] <;> rfl) (by simp only [q_log, h1, h2, cond_true, cond_false] <;> rfl)
  · refine zeKn (c := 1) rfl rfl rfl ?_
    refine zeP rfl rfl ?_
    refine zeKn (c := 1) rfl rfl rfl ?_
    refine zeCF rfl rfl rfl rfl rfl rfl (c_thr1 (m := (zm2 m 137 0 (Int32.ofNat 0))) (W := W) (c := 1) ) (by omega) ?_
    dsimp only [Option.toList, List.cons_append, List.nil_append]
    refine zeF1 rfl rfl (show zc1 .eq (Int32.ofNat 1) = false by decide) ?_
    refine zeKn (c := 0) rfl rfl rfl ?_
    exact zeRe rfl rfl rfl rfl (by simp only [q_log, h1, cond_true, cond_false] <;> rfl) (by simp only [q_log, h1, cond_true, cond_false] <;> rfl)
theorem c_log {σ : Nat → Nat × (Nat → Int32)} {yy : (Nat → Nat → Int64) × Bool × Nat × Nat} {m : Nat → Nat → Int32} {W : Nat → Int32} {k : Int32} {x : Int32} (hw : WG W) : zF σ 2 1884 [.ref 137, .int k, .int x] (zS1, zrow m 138 W, yy) (.inl (some (.int (q_log m W k x).1))) (zS1, zrow ((q_log m W k x).2) 138 W, yy) := by
  intro d hd
  obtain ⟨d, rfl⟩ : ∃ k, d = k + 1 := ⟨d - 1, by omega⟩
  exact p_log hd hw
noncomputable def q_lock (m : Nat → Nat → Int32) (W : Nat → Int32) (l : Int32) (x : Int32) : Int32 × (Nat → Nat → Int32) := (bif zc1 .ne (q_in l ((Int32.ofNat 0)) ((Int32.ofNat 3))) then (bif zc1 .ne (q_in x ((Int32.ofNat 0)) ((Int32.ofNat 5))) then (bif Nat.beq ((x.toNatClampNeg)) 0 then ((W (16 + (l.toNatClampNeg))), (zm2 m 137 0 (Int32.ofNat 0))) else (bif Nat.beq ((x.toNatClampNeg)) 1 then ((W (32 + (nv W (16 + l.toNatClampNeg)))), (zm2 m 137 0 (Int32.ofNat 0))) else (bif Nat.beq ((x.toNatClampNeg)) 2 then ((W (20 + (l.toNatClampNeg))), (zm2 m 137 0 (Int32.ofNat 0))) else (bif Nat.beq ((x.toNatClampNeg)) 3 then ((W (24 + (l.toNatClampNeg))), (zm2 m 137 0 (Int32.ofNat 0))) else (bif Nat.beq ((x.toNatClampNeg)) 4 then ((q_leavers W ((Int32.ofNat (l.toNatClampNeg)))), (zm2 m 137 0 (Int32.ofNat 0))) else ((W (28 + (l.toNatClampNeg))), (zm2 m 137 0 (Int32.ofNat 0)))))))) else ((Int32.ofNat 0), (q_thr1 ((zm2 m 137 0 (Int32.ofNat 0))) 2).2)) else ((Int32.ofNat 0), (q_thr1 ((zm2 m 137 0 (Int32.ofNat 0))) 1).2))
theorem p_lock {σ : Nat → Nat × (Nat → Int32)} {yy : (Nat → Nat → Int64) × Bool × Nat × Nat} {m : Nat → Nat → Int32} {W : Nat → Int32} {l : Int32} {x : Int32} {d : Nat} (hd : 5 ≤ d + 1) (hw : WG W) : zEv σ (d + 1) 1880 0 [some (.ref 137), some (.int l), some (.int x)] [] (zS1, zrow m 138 W, yy) (.inl (some (.int (q_lock m W l x).1))) (zS1, zrow ((q_lock m W l x).2) 138 W, yy) := by
  refine zeP rfl rfl ?_
  refine zeKn (c := 0) rfl rfl rfl ?_
  refine zeFP rfl rfl rfl ?_
  refine zeP rfl rfl ?_
  refine zeP rfl rfl ?_
  refine zeKn (c := 0) rfl rfl rfl ?_
  refine zeKn (c := 3) rfl rfl rfl ?_
  refine zeCF rfl rfl rfl rfl rfl rfl (c_in (m := (zm2 m 137 0 (Int32.ofNat 0))) (W := W) (v := l) (lo := (Int32.ofNat 0)) (hi := (Int32.ofNat 3)) ) (by omega) ?_
  dsimp only [Option.toList, List.cons_append, List.nil_append]
  refine zeB1 rfl rfl (fun h1 => ?_) (fun h1 => ?_)
  · refine zeKn (c := 0) rfl rfl rfl ?_
    refine zeKn (c := 1) rfl rfl rfl ?_
    refine zeCF rfl rfl rfl rfl rfl rfl (c_thr0 (m := (zm2 m 137 0 (Int32.ofNat 0))) (W := W) (c := 1) ) (by omega) ?_
    dsimp only [Option.toList, List.cons_append, List.nil_append]
    refine zeF1 rfl rfl (show zc1 .ne (Int32.ofNat 0) = false by decide) ?_
    refine zeP rfl rfl ?_
    refine zeP rfl rfl ?_
    refine zeKn (c := 0) rfl rfl rfl ?_
    refine zeKn (c := 5) rfl rfl rfl ?_
    refine zeCF rfl rfl rfl rfl rfl rfl (c_in (m := (zm2 m 137 0 (Int32.ofNat 0))) (W := W) (v := x) (lo := (Int32.ofNat 0)) (hi := (Int32.ofNat 5)) ) (by omega) ?_
    dsimp only [Option.toList, List.cons_append, List.nil_append]
    refine zeB1 rfl rfl (fun h2 => ?_) (fun h2 => ?_)
    · refine zeKn (c := 0) rfl rfl rfl ?_
      refine zeKn (c := 2) rfl rfl rfl ?_
      refine zeCF rfl rfl rfl rfl rfl rfl (c_thr0 (m := (zm2 m 137 0 (Int32.ofNat 0))) (W := W) (c := 2) ) (by omega) ?_
      dsimp only [Option.toList, List.cons_append, List.nil_append]
      refine zeT1 rfl rfl (show zc1 .eq (Int32.ofNat 0) = true by decide) ?_
      have cx : x = Int32.ofNat x.toNatClampNeg ∧ (0 ≤ x.toNatClampNeg ∧ x.toNatClampNeg ≤ 5) := (in_1 (by omega) (by omega) (by assumption))
      have cl : l = Int32.ofNat l.toNatClampNeg ∧ (0 ≤ l.toNatClampNeg ∧ l.toNatClampNeg ≤ 3) := (in_1 (by omega) (by omega) (by assumption))
      refine zeKn (c := x.toNatClampNeg) rfl rfl cx.1 ?_
      cases h3 : Nat.beq ((x.toNatClampNeg)) 0 with
      | true =>
        refine zeSw (K := 0) rfl (by rw [Nat.eq_of_beq_eq_true h3]) rfl ?_
        refine zeP rfl rfl ?_
        refine zeGR rfl rfl zS137 rfl rfl ?_
        refine zeKn (c := 16) rfl rfl rfl ?_
        refine zeKn (c := l.toNatClampNeg) rfl rfl cl.1 ?_
        refine zeAdd rfl ?_
        refine zeWL (k := (16 + (l.toNatClampNeg))) rfl (by omega) ?_
        exact zeRe rfl rfl rfl rfl (by simp only [q_lock, h1, h2, h3, cond_true, cond_false] <;> rfl) (by simp only [q_lock, h1, h2, h3, cond_true, cond_false] <;> rfl)
      | false =>
        cases h4 : Nat.beq ((x.toNatClampNeg)) 1 with
        | true =>
          refine zeSw (K := 1) rfl (by rw [Nat.eq_of_beq_eq_true h4]) rfl ?_
          refine zeP rfl rfl ?_
          refine zeGR rfl rfl zS137 rfl rfl ?_
          refine zeKn (c := 32) rfl rfl rfl ?_
          refine zeP rfl rfl ?_
          refine zeGR rfl rfl zS137 rfl rfl ?_
          refine zeKn (c := 16) rfl rfl rfl ?_
          refine zeKn (c := l.toNatClampNeg) rfl rfl cl.1 ?_
          refine zeAdd rfl ?_
          refine zeWL (k := (16 + (l.toNatClampNeg))) rfl (by omega) ?_
          rw [(hw.lkw (l := l.toNatClampNeg) (by omega)).1]
          refine zeAdd rfl ?_
          refine zeWL (k := (32 + (nv W (16 + l.toNatClampNeg)))) rfl (by have := hw.lk32 (l := l.toNatClampNeg) (by omega); omega) ?_
          exact zeRe rfl rfl rfl rfl (by simp only [q_lock, h1, h2, h3, h4, cond_true, cond_false] <;> rfl) (by simp only [q_lock, h1, h2, h3, h4, cond_true, cond_false] <;> rfl)
        | false =>
          cases h5 : Nat.beq ((x.toNatClampNeg)) 2 with
          | true =>
            refine zeSw (K := 2) rfl (by rw [Nat.eq_of_beq_eq_true h5]) rfl ?_
            refine zeP rfl rfl ?_
            refine zeGR rfl rfl zS137 rfl rfl ?_
            refine zeKn (c := 20) rfl rfl rfl ?_
            refine zeKn (c := l.toNatClampNeg) rfl rfl cl.1 ?_
            refine zeAdd rfl ?_
            refine zeWL (k := (20 + (l.toNatClampNeg))) rfl (by omega) ?_
            exact zeRe rfl rfl rfl rfl (by simp only [q_lock, h1, h2, h3, h4, h5, cond_true, cond_false] <;> rfl) (by simp only [q_lock, h1, h2, h3, h4, h5, cond_true, cond_false] <;> rfl)
          | false =>
            cases h6 : Nat.beq ((x.toNatClampNeg)) 3 with
            | true =>
              refine zeSw (K := 3) rfl (by rw [Nat.eq_of_beq_eq_true h6]) rfl ?_
              refine zeP rfl rfl ?_
              refine zeGR rfl rfl zS137 rfl rfl ?_
              refine zeKn (c := 24) rfl rfl rfl ?_
              refine zeKn (c := l.toNatClampNeg) rfl rfl cl.1 ?_
              refine zeAdd rfl ?_
              refine zeWL (k := (24 + (l.toNatClampNeg))) rfl (by omega) ?_
              exact zeRe rfl rfl rfl rfl (by simp only [q_lock, h1, h2, h3, h4, h5, h6, cond_true, cond_false] <;> rfl) (by simp only [q_lock, h1, h2, h3, h4, h5, h6, cond_true, cond_false] <;> rfl)
            | false =>
              cases h7 : Nat.beq ((x.toNatClampNeg)) 4 with
              | true =>
                refine zeSw (K := 4) rfl (by rw [Nat.eq_of_beq_eq_true h7]) rfl ?_
                refine zeP rfl rfl ?_
                refine zeKn (c := l.toNatClampNeg) rfl rfl cl.1 ?_
                refine zeCF rfl rfl rfl rfl rfl rfl (c_leavers (m := (zm2 m 137 0 (Int32.ofNat 0))) (W := W) (l := (Int32.ofNat (l.toNatClampNeg))) hw) (by omega) ?_
                dsimp only [Option.toList, List.cons_append, List.nil_append]
                exact zeRe rfl rfl rfl rfl (by simp only [q_lock, h1, h2, h3, h4, h5, h6, h7, cond_true, cond_false] <;> rfl) (by simp only [q_lock, h1, h2, h3, h4, h5, h6, h7, cond_true, cond_false] <;> rfl)
              | false =>
                have hB : (x.toNatClampNeg) = 5 := by
                  have e0 := Nat.ne_of_beq_eq_false h3
                  have e1 := Nat.ne_of_beq_eq_false h4
                  have e2 := Nat.ne_of_beq_eq_false h5
                  have e3 := Nat.ne_of_beq_eq_false h6
                  have e4 := Nat.ne_of_beq_eq_false h7
                  have eB := cx.2.2
                  omega
                refine zeSw (K := 5) rfl (by rw [hB]) rfl ?_
                refine zeP rfl rfl ?_
                refine zeGR rfl rfl zS137 rfl rfl ?_
                refine zeKn (c := 28) rfl rfl rfl ?_
                refine zeKn (c := l.toNatClampNeg) rfl rfl cl.1 ?_
                refine zeAdd rfl ?_
                refine zeWL (k := (28 + (l.toNatClampNeg))) rfl (by omega) ?_
                exact zeRe rfl rfl rfl rfl (by simp only [q_lock, h1, h2, h3, h4, h5, h6, h7, cond_true, cond_false] <;> rfl) (by simp only [q_lock, h1, h2, h3, h4, h5, h6, h7, cond_true, cond_false] <;> rfl)
    · refine zeKn (c := 1) rfl rfl rfl ?_
      refine zeP rfl rfl ?_
      refine zeKn (c := 2) rfl rfl rfl ?_
      refine zeCF rfl rfl rfl rfl rfl rfl (c_thr1 (m := (zm2 m 137 0 (Int32.ofNat 0))) (W := W) (c := 2) ) (by omega) ?_
      dsimp only [Option.toList, List.cons_append, List.nil_append]
      refine zeF1 rfl rfl (show zc1 .eq (Int32.ofNat 1) = false by decide) ?_
      refine zeKn (c := 0) rfl rfl rfl ?_
      exact zeRe rfl rfl rfl rfl (by simp only [q_lock, h1, h2, cond_true, cond_false] <;> rfl) (by simp only [q_lock, h1, h2, cond_true, cond_false] <;> rfl)
  · refine zeKn (c := 1) rfl rfl rfl ?_
    refine zeP rfl rfl ?_
    refine zeKn (c := 1) rfl rfl rfl ?_
    refine zeCF rfl rfl rfl rfl rfl rfl (c_thr1 (m := (zm2 m 137 0 (Int32.ofNat 0))) (W := W) (c := 1) ) (by omega) ?_
    dsimp only [Option.toList, List.cons_append, List.nil_append]
    refine zeT1 rfl rfl (show zc1 .ne (Int32.ofNat 1) = true by decide) ?_
    refine zeKn (c := 0) rfl rfl rfl ?_
    exact zeRe rfl rfl rfl rfl (by simp only [q_lock, h1, cond_true, cond_false] <;> rfl) (by simp only [q_lock, h1, cond_true, cond_false] <;> rfl)
theorem c_lock {σ : Nat → Nat × (Nat → Int32)} {yy : (Nat → Nat → Int64) × Bool × Nat × Nat} {m : Nat → Nat → Int32} {W : Nat → Int32} {l : Int32} {x : Int32} (hw : WG W) : zF σ 5 1880 [.ref 137, .int l, .int x] (zS1, zrow m 138 W, yy) (.inl (some (.int (q_lock m W l x).1))) (zS1, zrow ((q_lock m W l x).2) 138 W, yy) := by
  intro d hd
  obtain ⟨d, rfl⟩ : ∃ k, d = k + 1 := ⟨d - 1, by omega⟩
  exact p_lock hd hw
noncomputable def q_end (m : Nat → Nat → Int32) (n : Int32) : Int32 × (Nat → Nat → Int32) := (bif zc1 .lt n then ((Int32.ofNat 0), (zm2 m 137 0 (Int32.ofNat 0))) else (bif zc2 .le n (((zm2 m 137 0 (Int32.ofNat 0))) 137 7) then ((Int32.ofNat 1), (zm2 ((zm2 m 137 0 (Int32.ofNat 0))) 137 7 n)) else ((Int32.ofNat 0), (zm2 m 137 0 (Int32.ofNat 0)))))
theorem p_end {σ : Nat → Nat × (Nat → Int32)} {yy : (Nat → Nat → Int64) × Bool × Nat × Nat} {m : Nat → Nat → Int32} {W : Nat → Int32} {n : Int32} {d : Nat} (hd : 1 ≤ d + 1) : zEv σ (d + 1) 1842 0 [some (.ref 137), some (.int n)] [] (zS1, zrow m 138 W, yy) (.inl (some (.int (q_end m n).1))) (zS1, zrow ((q_end m n).2) 138 W, yy) := by
  refine zeP rfl rfl ?_
  refine zeKn (c := 0) rfl rfl rfl ?_
  refine zeFP rfl rfl rfl ?_
  refine zeP rfl rfl ?_
  refine zeB1 rfl rfl (fun h1 => ?_) (fun h1 => ?_)
  · refine zeKn (c := 0) rfl rfl rfl ?_
    exact zeRe rfl rfl rfl rfl (by simp only [q_end, h1, cond_true, cond_false] <;> rfl) (by simp only [q_end, h1, cond_true, cond_false] <;> rfl)
  · refine zeP rfl rfl ?_
    refine zeP rfl rfl ?_
    refine zeFI rfl rfl rfl rfl ?_
    refine zeB2 rfl rfl (fun h2 => ?_) (fun h2 => ?_)
    · refine zeP rfl rfl ?_
      refine zeP rfl rfl ?_
      refine zeFP rfl rfl rfl ?_
      refine zeKn (c := 1) rfl rfl rfl ?_
      exact zeRe rfl rfl rfl rfl (by simp only [q_end, h1, h2, cond_true, cond_false] <;> rfl) (by simp only [q_end, h1, h2, cond_true, cond_false] <;> rfl)
    · refine zeKn (c := 0) rfl rfl rfl ?_
      exact zeRe rfl rfl rfl rfl (by simp only [q_end, h1, h2, cond_true, cond_false] <;> rfl) (by simp only [q_end, h1, h2, cond_true, cond_false] <;> rfl)
theorem c_end {σ : Nat → Nat × (Nat → Int32)} {yy : (Nat → Nat → Int64) × Bool × Nat × Nat} {m : Nat → Nat → Int32} {W : Nat → Int32} {n : Int32} : zF σ 1 1842 [.ref 137, .int n] (zS1, zrow m 138 W, yy) (.inl (some (.int (q_end m n).1))) (zS1, zrow ((q_end m n).2) 138 W, yy) := by
  intro d hd
  obtain ⟨d, rfl⟩ : ∃ k, d = k + 1 := ⟨d - 1, by omega⟩
  exact p_end hd 
noncomputable def q_fault (m : Nat → Nat → Int32) : Int32 × (Nat → Nat → Int32) := ((((zm2 m 137 0 (Int32.ofNat 0))) 137 11), (zm2 m 137 0 (Int32.ofNat 0)))
theorem p_fault {σ : Nat → Nat × (Nat → Int32)} {yy : (Nat → Nat → Int64) × Bool × Nat × Nat} {m : Nat → Nat → Int32} {W : Nat → Int32} {d : Nat} (hd : 1 ≤ d + 1) : zEv σ (d + 1) 1843 0 [some (.ref 137)] [] (zS1, zrow m 138 W, yy) (.inl (some (.int (q_fault m).1))) (zS1, zrow ((q_fault m).2) 138 W, yy) := by
  refine zeP rfl rfl ?_
  refine zeKn (c := 0) rfl rfl rfl ?_
  refine zeFP rfl rfl rfl ?_
  refine zeP rfl rfl ?_
  refine zeFI rfl rfl rfl rfl ?_
  exact zeRe rfl rfl rfl rfl (by rfl) (by rfl)
theorem c_fault {σ : Nat → Nat × (Nat → Int32)} {yy : (Nat → Nat → Int64) × Bool × Nat × Nat} {m : Nat → Nat → Int32} {W : Nat → Int32} : zF σ 1 1843 [.ref 137] (zS1, zrow m 138 W, yy) (.inl (some (.int (q_fault m).1))) (zS1, zrow ((q_fault m).2) 138 W, yy) := by
  intro d hd
  obtain ⟨d, rfl⟩ : ∃ k, d = k + 1 := ⟨d - 1, by omega⟩
  exact p_fault hd 
end
section
theorem zgt_le {a b : Nat} (ha : a < 2147483648) (hb : b < 2147483648) (h : zc2 .gt (Int32.ofNat a) (Int32.ofNat b) = false) : a ≤ b := by
  apply Nat.le_of_not_lt
  intro q
  rw [zcgt ha hb q] at h
  cases h
noncomputable def crow (f g : Nat → Int32) : Nat → Int32 := fun k => if k < 788 then f k else g k
theorem c_cpF {σ : Nat → Nat × (Nat → Int32)} {yy : (Nat → Nat → Int64) × Bool × Nat × Nat} {m : Nat → Nat → Int32} {W : Nat → Int32} {b : Nat} (hb : b ≠ 138) (hB : zS1[b]? = some (10, 788, [])) : zF σ 0 1806 [.ref 138, .ref b] (zS1, zrow m 138 W, yy) (.inl none) (zS1, zrow (zrow m b (crow W (m b))) 138 W, yy) := by
  intro d _
  have h := zcp_all (σ := σ) (d := d) (m := zrow m 138 W) (y := yy) (a := 138) (b := b) (fun e => hb e.symm) rfl zS138 hB
  have e : zcpm (zrow m 138 W) 138 b 788 = zrow (zrow m b (crow W (m b))) 138 W := by
    funext i k
    unfold zcpm zrow crow
    by_cases h1 : i = b
    · subst h1
      by_cases h2 : k < 788
      · rw [if_pos ⟨rfl, h2⟩, if_pos rfl, if_neg hb, if_pos rfl, if_pos h2]
      · rw [if_neg (fun q => h2 q.2), if_neg hb, if_neg hb, if_pos rfl, if_neg h2]
    · rw [if_neg (fun q => h1 q.1)]
      by_cases h2 : i = 138
      · rw [if_pos h2, if_pos h2]
      · rw [if_neg h2, if_neg h2, if_neg h1]
  rw [e] at h
  exact h
theorem c_cpB {σ : Nat → Nat × (Nat → Int32)} {yy : (Nat → Nat → Int64) × Bool × Nat × Nat} {m : Nat → Nat → Int32} {W : Nat → Int32} {b : Nat} (hb : b ≠ 138) (hb2 : Nat.blt b 1000 = true) (hB : zS1[b]? = some (10, 788, [])) : zF σ 0 1806 [.ref b, .ref 138] (zS1, zrow m 138 W, yy) (.inl none) (zS1, zrow m 138 (crow (m b) W), yy) := by
  intro d _
  have h := zcp_all (σ := σ) (d := d) (m := zrow m 138 W) (y := yy) (a := b) (b := 138) hb hb2 hB zS138
  have e : zcpm (zrow m 138 W) b 138 788 = zrow m 138 (crow (m b) W) := by
    funext i k
    unfold zcpm zrow crow
    by_cases h1 : i = 138
    · subst h1
      by_cases h2 : k < 788
      · rw [if_pos ⟨rfl, h2⟩, if_neg hb, if_pos rfl, if_pos h2]
      · rw [if_neg (fun q => h2 q.2), if_pos rfl, if_pos rfl, if_neg h2]
    · rw [if_neg (fun q => h1 q.1), if_neg h1, if_neg h1]
  rw [e] at h
  exact h
noncomputable def q_image (m : Nat → Nat → Int32) (W : Nat → Int32) : (Nat → Nat → Int32) := (zm2 ((zrow ((zm2 m 137 0 (Int32.ofNat 0))) 139 (crow W (((zm2 m 137 0 (Int32.ofNat 0))) 139)))) 137 4 (Int32.ofNat 1))
theorem p_image {σ : Nat → Nat × (Nat → Int32)} {yy : (Nat → Nat → Int64) × Bool × Nat × Nat} {m : Nat → Nat → Int32} {W : Nat → Int32} {d : Nat} (hd : 1 ≤ d + 1) : zEv σ (d + 1) 1807 0 [some (.ref 137)] [] (zS1, zrow m 138 W, yy) (.inl none) (zS1, zrow ((q_image m W)) 138 W, yy) := by
  refine zeP rfl rfl ?_
  refine zeKn (c := 0) rfl rfl rfl ?_
  refine zeFP rfl rfl rfl ?_
  refine zeP rfl rfl ?_
  refine zeGR rfl rfl zS137 rfl rfl ?_
  refine zeP rfl rfl ?_
  refine zeGR rfl rfl zS137 rfl rfl ?_
  refine zeCF rfl rfl rfl rfl rfl rfl (c_cpF (m := (zm2 m 137 0 (Int32.ofNat 0))) (W := W) (b := 139) (by decide) rfl) (by omega) ?_
  dsimp only [Option.toList, List.cons_append, List.nil_append]
  refine zeP rfl rfl ?_
  refine zeKn (c := 1) rfl rfl rfl ?_
  refine zeFB rfl rfl rfl (Or.inr rfl) ?_
  exact zeRe rfl rfl rfl rfl (by rfl) (by rfl)
theorem c_image {σ : Nat → Nat × (Nat → Int32)} {yy : (Nat → Nat → Int64) × Bool × Nat × Nat} {m : Nat → Nat → Int32} {W : Nat → Int32} : zF σ 1 1807 [.ref 137] (zS1, zrow m 138 W, yy) (.inl none) (zS1, zrow ((q_image m W)) 138 W, yy) := by
  intro d hd
  obtain ⟨d, rfl⟩ : ∃ k, d = k + 1 := ⟨d - 1, by omega⟩
  exact p_image hd 
noncomputable def q_back (m : Nat → Nat → Int32) (W : Nat → Int32) : Int32 × (Nat → Int32) × (Nat → Nat → Int32) := (bif zc1 .ne (((zm2 m 137 0 (Int32.ofNat 0))) 137 4) then ((Int32.ofNat 1), (crow (((zm2 m 137 0 (Int32.ofNat 0))) 139) W), (zm2 m 137 0 (Int32.ofNat 0))) else ((Int32.ofNat 0), W, (zm2 m 137 0 (Int32.ofNat 0))))
theorem p_back {σ : Nat → Nat × (Nat → Int32)} {yy : (Nat → Nat → Int64) × Bool × Nat × Nat} {m : Nat → Nat → Int32} {W : Nat → Int32} {d : Nat} (hd : 1 ≤ d + 1) : zEv σ (d + 1) 1808 0 [some (.ref 137)] [] (zS1, zrow m 138 W, yy) (.inl (some (.int (q_back m W).1))) (zS1, zrow ((q_back m W).2.2) 138 ((q_back m W).2.1), yy) := by
  refine zeP rfl rfl ?_
  refine zeKn (c := 0) rfl rfl rfl ?_
  refine zeFP rfl rfl rfl ?_
  refine zeP rfl rfl ?_
  refine zeFI rfl rfl rfl rfl ?_
  refine zeB1 rfl rfl (fun h1 => ?_) (fun h1 => ?_)
  · refine zeP rfl rfl ?_
    refine zeGR rfl rfl zS137 rfl rfl ?_
    refine zeP rfl rfl ?_
    refine zeGR rfl rfl zS137 rfl rfl ?_
    refine zeCF rfl rfl rfl rfl rfl rfl (c_cpB (m := (zm2 m 137 0 (Int32.ofNat 0))) (W := W) (b := 139) (by decide) rfl rfl) (by omega) ?_
    dsimp only [Option.toList, List.cons_append, List.nil_append]
    refine zeKn (c := 1) rfl rfl rfl ?_
    exact zeRe rfl rfl rfl rfl (by simp only [q_back, h1, cond_true, cond_false] <;> rfl) (by simp only [q_back, h1, cond_true, cond_false] <;> rfl)
  · refine zeKn (c := 0) rfl rfl rfl ?_
    exact zeRe rfl rfl rfl rfl (by simp only [q_back, h1, cond_true, cond_false] <;> rfl) (by simp only [q_back, h1, cond_true, cond_false] <;> rfl)
theorem c_back {σ : Nat → Nat × (Nat → Int32)} {yy : (Nat → Nat → Int64) × Bool × Nat × Nat} {m : Nat → Nat → Int32} {W : Nat → Int32} : zF σ 1 1808 [.ref 137] (zS1, zrow m 138 W, yy) (.inl (some (.int (q_back m W).1))) (zS1, zrow ((q_back m W).2.2) 138 ((q_back m W).2.1), yy) := by
  intro d hd
  obtain ⟨d, rfl⟩ : ∃ k, d = k + 1 := ⟨d - 1, by omega⟩
  exact p_back hd 
noncomputable def l_fell (W : Nat → Int32) (t : Int32) (y : Nat) : Nat → Int32 → Nat → Int32
  | 0, c, k => c
  | n + 1, c, k => (bif zc2 .eq t (-1) then (l_fell W t y n ((c + (q_of W k ((5 + y))))) ((k + 1))) else (bif zc2 .ne t (Int32.ofNat k) then (l_fell W t y n ((c + (Int32.ofNat 0))) ((k + 1))) else (l_fell W t y n ((c + (q_of W k ((5 + y))))) ((k + 1)))))
theorem w_fell {σ : Nat → Nat × (Nat → Int32)} {yy : (Nat → Nat → Int64) × Bool × Nat × Nat} {m : Nat → Nat → Int32} {W : Nat → Int32} {t : Int32} {y : Nat} {d : Nat} (hd : 3 ≤ d + 1) (hw : WG W) (hN4 : nv W 9 ≤ 4) (hy : y ≤ 4) : ∀ (n : Nat) (c : Int32) (k : Nat), k + n = nv W 9 → zEv σ (d + 1) 1875 66 [some (.ref 137), some (.int t), some (.int (Int32.ofNat y)), some (.int c), some (.int (Int32.ofNat k))] [] (zS1, zrow m 138 W, yy) (.inl (some (.int (l_fell W t y n c k)))) (zS1, zrow m 138 W, yy) := by
  intro n
  induction n with
  | zero =>
    intro c k hk
    refine zeP rfl rfl ?_
    refine zeP rfl rfl ?_
    refine zeCF rfl rfl rfl rfl rfl rfl (c_threads (m := m) (W := W)  ) (by omega) ?_
    dsimp only [Option.toList, List.cons_append, List.nil_append]
    rw [show q_threads W = Int32.ofNat (nv W 9) from hw.N]
    refine zeT2 rfl rfl (zcge (by omega) (by omega) (by omega)) ?_
    refine zeP rfl rfl ?_
    exact zeRe rfl rfl rfl rfl (by rfl) (by rfl)
  | succ n ih =>
    intro c k hk
    refine zeP rfl rfl ?_
    refine zeP rfl rfl ?_
    refine zeCF rfl rfl rfl rfl rfl rfl (c_threads (m := m) (W := W)  ) (by omega) ?_
    dsimp only [Option.toList, List.cons_append, List.nil_append]
    rw [show q_threads W = Int32.ofNat (nv W 9) from hw.N]
    refine zeF2 rfl rfl (zcge_f (by omega) (by omega) (by omega)) ?_
    refine zeP rfl rfl ?_
    refine zeP rfl rfl ?_
    refine zeK (v := -1) rfl rfl rfl ?_
    refine zeB2 rfl rfl (fun h1 => ?_) (fun h1 => ?_)
    · refine zeP rfl rfl ?_
      refine zeP rfl rfl ?_
      refine zeKn (c := 5) rfl rfl rfl ?_
      refine zeP rfl rfl ?_
      refine zeAdd rfl ?_
      refine zeCF rfl rfl rfl rfl rfl rfl (c_of (m := m) (W := W) (t := k) (k := (5 + y)) (by first | assumption | omega)) (by omega) ?_
      dsimp only [Option.toList, List.cons_append, List.nil_append]
      refine zeP rfl rfl ?_
      refine zeP rfl rfl ?_
      refine zeP rfl rfl ?_
      refine zeInc rfl rfl ?_
      refine zeP rfl rfl ?_
      simp only [l_fell, h1, cond_true, cond_false]
      exact ih ((c + (q_of W k ((5 + y))))) ((k + 1))   (by omega) 
    · refine zeP rfl rfl ?_
      refine zeP rfl rfl ?_
      refine zeB2 rfl rfl (fun h2 => ?_) (fun h2 => ?_)
      · refine zeKn (c := 0) rfl rfl rfl ?_
        refine zeP rfl rfl ?_
        refine zeP rfl rfl ?_
        refine zeInc rfl rfl ?_
        refine zeP rfl rfl ?_
        simp only [l_fell, h1, h2, cond_true, cond_false]
        exact ih ((c + (Int32.ofNat 0))) ((k + 1))   (by omega) 
      · refine zeP rfl rfl ?_
        refine zeP rfl rfl ?_
        refine zeKn (c := 5) rfl rfl rfl ?_
        refine zeP rfl rfl ?_
        refine zeAdd rfl ?_
        refine zeCF rfl rfl rfl rfl rfl rfl (c_of (m := m) (W := W) (t := k) (k := (5 + y)) (by first | assumption | omega)) (by omega) ?_
        dsimp only [Option.toList, List.cons_append, List.nil_append]
        refine zeP rfl rfl ?_
        refine zeP rfl rfl ?_
        refine zeP rfl rfl ?_
        refine zeInc rfl rfl ?_
        refine zeP rfl rfl ?_
        simp only [l_fell, h1, h2, cond_true, cond_false]
        exact ih ((c + (q_of W k ((5 + y))))) ((k + 1))   (by omega) 
noncomputable def q_fell (m : Nat → Nat → Int32) (W : Nat → Int32) (t : Int32) (y : Int32) : Int32 × (Nat → Nat → Int32) := (bif zc2 .eq t (-1) then (bif zc1 .ne (q_in y ((Int32.ofNat 0)) ((Int32.ofNat 4))) then ((l_fell W t ((y.toNatClampNeg)) ((nv W 9)) ((Int32.ofNat 0)) 0), (zm2 m 137 0 (Int32.ofNat 0))) else ((Int32.ofNat 0), (q_thr1 ((zm2 m 137 0 (Int32.ofNat 0))) 2).2)) else (bif zc1 .ne (q_in t ((Int32.ofNat 0)) (((q_threads W) - (Int32.ofNat 1)))) then (bif zc1 .ne (q_in y ((Int32.ofNat 0)) ((Int32.ofNat 4))) then ((l_fell W t ((y.toNatClampNeg)) ((nv W 9)) ((Int32.ofNat 0)) 0), (zm2 m 137 0 (Int32.ofNat 0))) else ((Int32.ofNat 0), (q_thr1 ((zm2 m 137 0 (Int32.ofNat 0))) 2).2)) else ((Int32.ofNat 0), (q_thr1 ((zm2 m 137 0 (Int32.ofNat 0))) 1).2)))
theorem p_fell {σ : Nat → Nat × (Nat → Int32)} {yy : (Nat → Nat → Int64) × Bool × Nat × Nat} {m : Nat → Nat → Int32} {W : Nat → Int32} {t : Int32} {y : Int32} {d : Nat} (hd : 3 ≤ d + 1) (hw : WG W) : zEv σ (d + 1) 1875 0 [some (.ref 137), some (.int t), some (.int y), none, none] [] (zS1, zrow m 138 W, yy) (.inl (some (.int (q_fell m W t y).1))) (zS1, zrow ((q_fell m W t y).2) 138 W, yy) := by
  refine zeP rfl rfl ?_
  refine zeKn (c := 0) rfl rfl rfl ?_
  refine zeFP rfl rfl rfl ?_
  refine zeP rfl rfl ?_
  refine zeP rfl rfl ?_
  refine zeK (v := -1) rfl rfl rfl ?_
  refine zeB2 rfl rfl (fun h1 => ?_) (fun h1 => ?_)
  · refine zeKn (c := 0) rfl rfl rfl ?_
    refine zeKn (c := 1) rfl rfl rfl ?_
    refine zeCF rfl rfl rfl rfl rfl rfl (c_thr0 (m := (zm2 m 137 0 (Int32.ofNat 0))) (W := W) (c := 1) ) (by omega) ?_
    dsimp only [Option.toList, List.cons_append, List.nil_append]
    refine zeF1 rfl rfl (show zc1 .ne (Int32.ofNat 0) = false by decide) ?_
    refine zeP rfl rfl ?_
    refine zeP rfl rfl ?_
    refine zeKn (c := 0) rfl rfl rfl ?_
    refine zeKn (c := 4) rfl rfl rfl ?_
    refine zeCF rfl rfl rfl rfl rfl rfl (c_in (m := (zm2 m 137 0 (Int32.ofNat 0))) (W := W) (v := y) (lo := (Int32.ofNat 0)) (hi := (Int32.ofNat 4)) ) (by omega) ?_
    dsimp only [Option.toList, List.cons_append, List.nil_append]
    refine zeB1 rfl rfl (fun h2 => ?_) (fun h2 => ?_)
    · refine zeKn (c := 0) rfl rfl rfl ?_
      refine zeKn (c := 2) rfl rfl rfl ?_
      refine zeCF rfl rfl rfl rfl rfl rfl (c_thr0 (m := (zm2 m 137 0 (Int32.ofNat 0))) (W := W) (c := 2) ) (by omega) ?_
      dsimp only [Option.toList, List.cons_append, List.nil_append]
      refine zeT1 rfl rfl (show zc1 .eq (Int32.ofNat 0) = true by decide) ?_
      have cy : y = Int32.ofNat y.toNatClampNeg ∧ (0 ≤ y.toNatClampNeg ∧ y.toNatClampNeg ≤ 4) := (in_1 (by omega) (by omega) (by assumption))
      refine zeKn (c := 0) rfl rfl rfl ?_
      refine zeP rfl rfl ?_
      refine zeKn (c := 0) rfl rfl rfl ?_
      refine zeP rfl rfl ?_
      simp only [q_fell, h1, h2, cond_true, cond_false]
      have ez := w_fell (t := t) (y := (y.toNatClampNeg)) (W := W) (m := (zm2 m 137 0 (Int32.ofNat 0))) (σ := σ) (yy := yy) (d := d) (by omega) hw hw.N4 cy.2.2 ((nv W 9)) ((Int32.ofNat 0)) (0)   (by omega) 
      rw [← cy.1] at ez
      exact ez
    · refine zeKn (c := 1) rfl rfl rfl ?_
      refine zeP rfl rfl ?_
      refine zeKn (c := 2) rfl rfl rfl ?_
      refine zeCF rfl rfl rfl rfl rfl rfl (c_thr1 (m := (zm2 m 137 0 (Int32.ofNat 0))) (W := W) (c := 2) ) (by omega) ?_
      dsimp only [Option.toList, List.cons_append, List.nil_append]
      refine zeF1 rfl rfl (show zc1 .eq (Int32.ofNat 1) = false by decide) ?_
      refine zeKn (c := 0) rfl rfl rfl ?_
      exact zeRe rfl rfl rfl rfl (by simp only [q_fell, h1, h2, cond_true, cond_false] <;> rfl) (by simp only [q_fell, h1, h2, cond_true, cond_false] <;> rfl)
  · refine zeP rfl rfl ?_
    refine zeKn (c := 0) rfl rfl rfl ?_
    refine zeP rfl rfl ?_
    refine zeCF rfl rfl rfl rfl rfl rfl (c_threads (m := (zm2 m 137 0 (Int32.ofNat 0))) (W := W)  ) (by omega) ?_
    dsimp only [Option.toList, List.cons_append, List.nil_append]
    refine zeKn (c := 1) rfl rfl rfl ?_
    refine zeP rfl rfl ?_
    refine zeCF rfl rfl rfl rfl rfl rfl (c_in (m := (zm2 m 137 0 (Int32.ofNat 0))) (W := W) (v := t) (lo := (Int32.ofNat 0)) (hi := ((q_threads W) - (Int32.ofNat 1))) ) (by omega) ?_
    dsimp only [Option.toList, List.cons_append, List.nil_append]
    refine zeB1 rfl rfl (fun h3 => ?_) (fun h3 => ?_)
    · refine zeKn (c := 0) rfl rfl rfl ?_
      refine zeKn (c := 1) rfl rfl rfl ?_
      refine zeCF rfl rfl rfl rfl rfl rfl (c_thr0 (m := (zm2 m 137 0 (Int32.ofNat 0))) (W := W) (c := 1) ) (by omega) ?_
      dsimp only [Option.toList, List.cons_append, List.nil_append]
      refine zeF1 rfl rfl (show zc1 .ne (Int32.ofNat 0) = false by decide) ?_
      refine zeP rfl rfl ?_
      refine zeP rfl rfl ?_
      refine zeKn (c := 0) rfl rfl rfl ?_
      refine zeKn (c := 4) rfl rfl rfl ?_
      refine zeCF rfl rfl rfl rfl rfl rfl (c_in (m := (zm2 m 137 0 (Int32.ofNat 0))) (W := W) (v := y) (lo := (Int32.ofNat 0)) (hi := (Int32.ofNat 4)) ) (by omega) ?_
      dsimp only [Option.toList, List.cons_append, List.nil_append]
      refine zeB1 rfl rfl (fun h4 => ?_) (fun h4 => ?_)
      · refine zeKn (c := 0) rfl rfl rfl ?_
        refine zeKn (c := 2) rfl rfl rfl ?_
        refine zeCF rfl rfl rfl rfl rfl rfl (c_thr0 (m := (zm2 m 137 0 (Int32.ofNat 0))) (W := W) (c := 2) ) (by omega) ?_
        dsimp only [Option.toList, List.cons_append, List.nil_append]
        refine zeT1 rfl rfl (show zc1 .eq (Int32.ofNat 0) = true by decide) ?_
        have cy : y = Int32.ofNat y.toNatClampNeg ∧ (0 ≤ y.toNatClampNeg ∧ y.toNatClampNeg ≤ 4) := (in_1 (by omega) (by omega) (by assumption))
        refine zeKn (c := 0) rfl rfl rfl ?_
        refine zeP rfl rfl ?_
        refine zeKn (c := 0) rfl rfl rfl ?_
        refine zeP rfl rfl ?_
        simp only [q_fell, h1, h3, h4, cond_true, cond_false]
        have ez := w_fell (t := t) (y := (y.toNatClampNeg)) (W := W) (m := (zm2 m 137 0 (Int32.ofNat 0))) (σ := σ) (yy := yy) (d := d) (by omega) hw hw.N4 cy.2.2 ((nv W 9)) ((Int32.ofNat 0)) (0)   (by omega) 
        rw [← cy.1] at ez
        exact ez
      · refine zeKn (c := 1) rfl rfl rfl ?_
        refine zeP rfl rfl ?_
        refine zeKn (c := 2) rfl rfl rfl ?_
        refine zeCF rfl rfl rfl rfl rfl rfl (c_thr1 (m := (zm2 m 137 0 (Int32.ofNat 0))) (W := W) (c := 2) ) (by omega) ?_
        dsimp only [Option.toList, List.cons_append, List.nil_append]
        refine zeF1 rfl rfl (show zc1 .eq (Int32.ofNat 1) = false by decide) ?_
        refine zeKn (c := 0) rfl rfl rfl ?_
        exact zeRe rfl rfl rfl rfl (by simp only [q_fell, h1, h3, h4, cond_true, cond_false] <;> rfl) (by simp only [q_fell, h1, h3, h4, cond_true, cond_false] <;> rfl)
    · refine zeKn (c := 1) rfl rfl rfl ?_
      refine zeP rfl rfl ?_
      refine zeKn (c := 1) rfl rfl rfl ?_
      refine zeCF rfl rfl rfl rfl rfl rfl (c_thr1 (m := (zm2 m 137 0 (Int32.ofNat 0))) (W := W) (c := 1) ) (by omega) ?_
      dsimp only [Option.toList, List.cons_append, List.nil_append]
      refine zeT1 rfl rfl (show zc1 .ne (Int32.ofNat 1) = true by decide) ?_
      refine zeKn (c := 0) rfl rfl rfl ?_
      exact zeRe rfl rfl rfl rfl (by simp only [q_fell, h1, h3, cond_true, cond_false] <;> rfl) (by simp only [q_fell, h1, h3, cond_true, cond_false] <;> rfl)
theorem c_fell {σ : Nat → Nat × (Nat → Int32)} {yy : (Nat → Nat → Int64) × Bool × Nat × Nat} {m : Nat → Nat → Int32} {W : Nat → Int32} {t : Int32} {y : Int32} (hw : WG W) : zF σ 3 1875 [.ref 137, .int t, .int y] (zS1, zrow m 138 W, yy) (.inl (some (.int (q_fell m W t y).1))) (zS1, zrow ((q_fell m W t y).2) 138 W, yy) := by
  intro d hd
  obtain ⟨d, rfl⟩ : ∃ k, d = k + 1 := ⟨d - 1, by omega⟩
  exact p_fell hd hw
noncomputable def q_leastOf (x : Nat) : Int32 := (bif zc2 .eq (Int32.ofNat x) (Int32.ofNat 4) then (Int32.ofNat 0) else (bif zc2 .eq (Int32.ofNat x) (Int32.ofNat 5) then (Int32.ofNat 0) else (bif zc2 .eq (Int32.ofNat x) (Int32.ofNat 6) then (Int32.ofNat 0) else (bif zc2 .ne (Int32.ofNat x) (Int32.ofNat 8) then (Int32.ofNat 1) else (Int32.ofNat 0)))))
theorem p_leastOf {σ : Nat → Nat × (Nat → Int32)} {yy : (Nat → Nat → Int64) × Bool × Nat × Nat} {m : Nat → Nat → Int32} {W : Nat → Int32} {x : Nat} {d : Nat} (hd : 1 ≤ d + 1) : zEv σ (d + 1) 1857 0 [some (.int (Int32.ofNat x))] [] (zS1, zrow m 138 W, yy) (.inl (some (.int (q_leastOf x)))) (zS1, zrow m 138 W, yy) := by
  refine zeP rfl rfl ?_
  refine zeKn (c := 4) rfl rfl rfl ?_
  refine zeB2 rfl rfl (fun h1 => ?_) (fun h1 => ?_)
  · refine zeKn (c := 0) rfl rfl rfl ?_
    refine zeP rfl rfl ?_
    exact zeRe rfl rfl rfl rfl (by simp only [q_leastOf, h1, cond_true, cond_false] <;> rfl) (by simp only [q_leastOf, h1, cond_true, cond_false] <;> rfl)
  · refine zeP rfl rfl ?_
    refine zeKn (c := 5) rfl rfl rfl ?_
    refine zeB2 rfl rfl (fun h2 => ?_) (fun h2 => ?_)
    · refine zeKn (c := 0) rfl rfl rfl ?_
      refine zeP rfl rfl ?_
      exact zeRe rfl rfl rfl rfl (by simp only [q_leastOf, h1, h2, cond_true, cond_false] <;> rfl) (by simp only [q_leastOf, h1, h2, cond_true, cond_false] <;> rfl)
    · refine zeP rfl rfl ?_
      refine zeKn (c := 6) rfl rfl rfl ?_
      refine zeB2 rfl rfl (fun h3 => ?_) (fun h3 => ?_)
      · refine zeKn (c := 0) rfl rfl rfl ?_
        refine zeP rfl rfl ?_
        exact zeRe rfl rfl rfl rfl (by simp only [q_leastOf, h1, h2, h3, cond_true, cond_false] <;> rfl) (by simp only [q_leastOf, h1, h2, h3, cond_true, cond_false] <;> rfl)
      · refine zeP rfl rfl ?_
        refine zeKn (c := 8) rfl rfl rfl ?_
        refine zeB2 rfl rfl (fun h4 => ?_) (fun h4 => ?_)
        · refine zeKn (c := 1) rfl rfl rfl ?_
          exact zeRe rfl rfl rfl rfl (by simp only [q_leastOf, h1, h2, h3, h4, cond_true, cond_false] <;> rfl) (by simp only [q_leastOf, h1, h2, h3, h4, cond_true, cond_false] <;> rfl)
        · refine zeKn (c := 0) rfl rfl rfl ?_
          refine zeP rfl rfl ?_
          exact zeRe rfl rfl rfl rfl (by simp only [q_leastOf, h1, h2, h3, h4, cond_true, cond_false] <;> rfl) (by simp only [q_leastOf, h1, h2, h3, h4, cond_true, cond_false] <;> rfl)
theorem c_leastOf {σ : Nat → Nat × (Nat → Int32)} {yy : (Nat → Nat → Int64) × Bool × Nat × Nat} {m : Nat → Nat → Int32} {W : Nat → Int32} {x : Nat} : zF σ 1 1857 [.int (Int32.ofNat x)] (zS1, zrow m 138 W, yy) (.inl (some (.int (q_leastOf x)))) (zS1, zrow m 138 W, yy) := by
  intro d hd
  obtain ⟨d, rfl⟩ : ∃ k, d = k + 1 := ⟨d - 1, by omega⟩
  exact p_leastOf hd 
noncomputable def q_mostOf (x : Nat) : Int32 := (bif Nat.beq x 0 then (Int32.ofNat 9) else (bif Nat.beq x 1 then (Int32.ofNat 9) else (bif Nat.beq x 2 then (Int32.ofNat 4) else (bif Nat.beq x 3 then (Int32.ofNat 8) else (bif Nat.beq x 4 then (Int32.ofNat 16) else (bif Nat.beq x 5 then (Int32.ofNat 9) else (bif Nat.beq x 6 then (Int32.ofNat 15) else (bif Nat.beq x 7 then (Int32.ofNat 9) else (Int32.ofNat 1)))))))))
theorem p_mostOf {σ : Nat → Nat × (Nat → Int32)} {yy : (Nat → Nat → Int64) × Bool × Nat × Nat} {m : Nat → Nat → Int32} {W : Nat → Int32} {x : Nat} {d : Nat} (hd : 1 ≤ d + 1) (hx : x ≤ 8) : zEv σ (d + 1) 1858 0 [some (.int (Int32.ofNat x))] [] (zS1, zrow m 138 W, yy) (.inl (some (.int (q_mostOf x)))) (zS1, zrow m 138 W, yy) := by
  refine zeP rfl rfl ?_
  cases h1 : Nat.beq x 0 with
  | true =>
    refine zeSw (K := 0) rfl (by rw [Nat.eq_of_beq_eq_true h1]) rfl ?_
    refine zeKn (c := 9) rfl rfl rfl ?_
    exact zeRe rfl rfl rfl rfl (by simp only [q_mostOf, h1, cond_true, cond_false] <;> rfl) (by simp only [q_mostOf, h1, cond_true, cond_false] <;> rfl)
  | false =>
    cases h2 : Nat.beq x 1 with
    | true =>
      refine zeSw (K := 1) rfl (by rw [Nat.eq_of_beq_eq_true h2]) rfl ?_
      refine zeKn (c := 9) rfl rfl rfl ?_
      exact zeRe rfl rfl rfl rfl (by simp only [q_mostOf, h1, h2, cond_true, cond_false] <;> rfl) (by simp only [q_mostOf, h1, h2, cond_true, cond_false] <;> rfl)
    | false =>
      cases h3 : Nat.beq x 2 with
      | true =>
        refine zeSw (K := 2) rfl (by rw [Nat.eq_of_beq_eq_true h3]) rfl ?_
        refine zeKn (c := 4) rfl rfl rfl ?_
        exact zeRe rfl rfl rfl rfl (by simp only [q_mostOf, h1, h2, h3, cond_true, cond_false] <;> rfl) (by simp only [q_mostOf, h1, h2, h3, cond_true, cond_false] <;> rfl)
      | false =>
        cases h4 : Nat.beq x 3 with
        | true =>
          refine zeSw (K := 3) rfl (by rw [Nat.eq_of_beq_eq_true h4]) rfl ?_
          refine zeKn (c := 8) rfl rfl rfl ?_
          exact zeRe rfl rfl rfl rfl (by simp only [q_mostOf, h1, h2, h3, h4, cond_true, cond_false] <;> rfl) (by simp only [q_mostOf, h1, h2, h3, h4, cond_true, cond_false] <;> rfl)
        | false =>
          cases h5 : Nat.beq x 4 with
          | true =>
            refine zeSw (K := 4) rfl (by rw [Nat.eq_of_beq_eq_true h5]) rfl ?_
            refine zeKn (c := 16) rfl rfl rfl ?_
            exact zeRe rfl rfl rfl rfl (by simp only [q_mostOf, h1, h2, h3, h4, h5, cond_true, cond_false] <;> rfl) (by simp only [q_mostOf, h1, h2, h3, h4, h5, cond_true, cond_false] <;> rfl)
          | false =>
            cases h6 : Nat.beq x 5 with
            | true =>
              refine zeSw (K := 5) rfl (by rw [Nat.eq_of_beq_eq_true h6]) rfl ?_
              refine zeKn (c := 9) rfl rfl rfl ?_
              exact zeRe rfl rfl rfl rfl (by simp only [q_mostOf, h1, h2, h3, h4, h5, h6, cond_true, cond_false] <;> rfl) (by simp only [q_mostOf, h1, h2, h3, h4, h5, h6, cond_true, cond_false] <;> rfl)
            | false =>
              cases h7 : Nat.beq x 6 with
              | true =>
                refine zeSw (K := 6) rfl (by rw [Nat.eq_of_beq_eq_true h7]) rfl ?_
                refine zeKn (c := 15) rfl rfl rfl ?_
                exact zeRe rfl rfl rfl rfl (by simp only [q_mostOf, h1, h2, h3, h4, h5, h6, h7, cond_true, cond_false] <;> rfl) (by simp only [q_mostOf, h1, h2, h3, h4, h5, h6, h7, cond_true, cond_false] <;> rfl)
              | false =>
                cases h8 : Nat.beq x 7 with
                | true =>
                  refine zeSw (K := 7) rfl (by rw [Nat.eq_of_beq_eq_true h8]) rfl ?_
                  refine zeKn (c := 9) rfl rfl rfl ?_
                  exact zeRe rfl rfl rfl rfl (by simp only [q_mostOf, h1, h2, h3, h4, h5, h6, h7, h8, cond_true, cond_false] <;> rfl) (by simp only [q_mostOf, h1, h2, h3, h4, h5, h6, h7, h8, cond_true, cond_false] <;> rfl)
                | false =>
                  have hB : x = 8 := by
                    have e0 := Nat.ne_of_beq_eq_false h1
                    have e1 := Nat.ne_of_beq_eq_false h2
                    have e2 := Nat.ne_of_beq_eq_false h3
                    have e3 := Nat.ne_of_beq_eq_false h4
                    have e4 := Nat.ne_of_beq_eq_false h5
                    have e5 := Nat.ne_of_beq_eq_false h6
                    have e6 := Nat.ne_of_beq_eq_false h7
                    have e7 := Nat.ne_of_beq_eq_false h8
                    have eB := hx
                    omega
                  refine zeSw (K := 8) rfl (by rw [hB]) rfl ?_
                  refine zeKn (c := 1) rfl rfl rfl ?_
                  exact zeRe rfl rfl rfl rfl (by simp only [q_mostOf, h1, h2, h3, h4, h5, h6, h7, h8, cond_true, cond_false] <;> rfl) (by simp only [q_mostOf, h1, h2, h3, h4, h5, h6, h7, h8, cond_true, cond_false] <;> rfl)
theorem c_mostOf {σ : Nat → Nat × (Nat → Int32)} {yy : (Nat → Nat → Int64) × Bool × Nat × Nat} {m : Nat → Nat → Int32} {W : Nat → Int32} {x : Nat} (hx : x ≤ 8) : zF σ 1 1858 [.int (Int32.ofNat x)] (zS1, zrow m 138 W, yy) (.inl (some (.int (q_mostOf x)))) (zS1, zrow m 138 W, yy) := by
  intro d hd
  obtain ⟨d, rfl⟩ : ∃ k, d = k + 1 := ⟨d - 1, by omega⟩
  exact p_mostOf hd hx
noncomputable def q_tune (m : Nat → Nat → Int32) (W : Nat → Int32) (x : Int32) (n : Int32) : Int32 × (Nat → Int32) × (Nat → Nat → Int32) := (bif zc1 .ne (q_in x ((Int32.ofNat 1)) ((Int32.ofNat 8))) then (bif zc1 .ne (q_in n ((q_leastOf ((x.toNatClampNeg)))) ((q_mostOf ((x.toNatClampNeg))))) then ((W (x.toNatClampNeg)), (upd W (x.toNatClampNeg) n), (zm2 m 137 0 (Int32.ofNat 0))) else ((Int32.ofNat 0), W, (q_thr1 ((zm2 m 137 0 (Int32.ofNat 0))) 2).2)) else ((Int32.ofNat 0), W, (q_thr1 ((zm2 m 137 0 (Int32.ofNat 0))) 1).2))
theorem p_tune {σ : Nat → Nat × (Nat → Int32)} {yy : (Nat → Nat → Int64) × Bool × Nat × Nat} {m : Nat → Nat → Int32} {W : Nat → Int32} {x : Int32} {n : Int32} {d : Nat} (hd : 2 ≤ d + 1) : zEv σ (d + 1) 1869 0 [some (.ref 137), some (.int x), some (.int n), none] [] (zS1, zrow m 138 W, yy) (.inl (some (.int (q_tune m W x n).1))) (zS1, zrow ((q_tune m W x n).2.2) 138 ((q_tune m W x n).2.1), yy) := by
  refine zeP rfl rfl ?_
  refine zeKn (c := 0) rfl rfl rfl ?_
  refine zeFP rfl rfl rfl ?_
  refine zeP rfl rfl ?_
  refine zeP rfl rfl ?_
  refine zeKn (c := 1) rfl rfl rfl ?_
  refine zeKn (c := 8) rfl rfl rfl ?_
  refine zeCF rfl rfl rfl rfl rfl rfl (c_in (m := (zm2 m 137 0 (Int32.ofNat 0))) (W := W) (v := x) (lo := (Int32.ofNat 1)) (hi := (Int32.ofNat 8)) ) (by omega) ?_
  dsimp only [Option.toList, List.cons_append, List.nil_append]
  refine zeB1 rfl rfl (fun h1 => ?_) (fun h1 => ?_)
  · refine zeKn (c := 0) rfl rfl rfl ?_
    refine zeKn (c := 1) rfl rfl rfl ?_
    refine zeCF rfl rfl rfl rfl rfl rfl (c_thr0 (m := (zm2 m 137 0 (Int32.ofNat 0))) (W := W) (c := 1) ) (by omega) ?_
    dsimp only [Option.toList, List.cons_append, List.nil_append]
    refine zeF1 rfl rfl (show zc1 .ne (Int32.ofNat 0) = false by decide) ?_
    have cx : x = Int32.ofNat x.toNatClampNeg ∧ (1 ≤ x.toNatClampNeg ∧ x.toNatClampNeg ≤ 8) := (in_1 (by omega) (by omega) (by assumption))
    refine zeP rfl rfl ?_
    refine zeP rfl rfl ?_
    refine zeKn (c := x.toNatClampNeg) rfl rfl cx.1 ?_
    refine zeCF rfl rfl rfl rfl rfl rfl (c_leastOf (m := (zm2 m 137 0 (Int32.ofNat 0))) (W := W) (x := (x.toNatClampNeg)) ) (by omega) ?_
    dsimp only [Option.toList, List.cons_append, List.nil_append]
    refine zeKn (c := x.toNatClampNeg) rfl rfl cx.1 ?_
    refine zeCF rfl rfl rfl rfl rfl rfl (c_mostOf (m := (zm2 m 137 0 (Int32.ofNat 0))) (W := W) (x := (x.toNatClampNeg)) cx.2.2) (by omega) ?_
    dsimp only [Option.toList, List.cons_append, List.nil_append]
    refine zeCF rfl rfl rfl rfl rfl rfl (c_in (m := (zm2 m 137 0 (Int32.ofNat 0))) (W := W) (v := n) (lo := (q_leastOf ((x.toNatClampNeg)))) (hi := (q_mostOf ((x.toNatClampNeg)))) ) (by omega) ?_
    dsimp only [Option.toList, List.cons_append, List.nil_append]
    refine zeB1 rfl rfl (fun h2 => ?_) (fun h2 => ?_)
    · refine zeKn (c := 0) rfl rfl rfl ?_
      refine zeKn (c := 2) rfl rfl rfl ?_
      refine zeCF rfl rfl rfl rfl rfl rfl (c_thr0 (m := (zm2 m 137 0 (Int32.ofNat 0))) (W := W) (c := 2) ) (by omega) ?_
      dsimp only [Option.toList, List.cons_append, List.nil_append]
      refine zeT1 rfl rfl (show zc1 .eq (Int32.ofNat 0) = true by decide) ?_
      refine zeP rfl rfl ?_
      refine zeGR rfl rfl zS137 rfl rfl ?_
      refine zeKn (c := x.toNatClampNeg) rfl rfl cx.1 ?_
      refine zeWL (k := (x.toNatClampNeg)) rfl (by omega) ?_
      refine zeP rfl rfl ?_
      refine zeP rfl rfl ?_
      refine zeGR rfl rfl zS137 rfl rfl ?_
      refine zeKn (c := x.toNatClampNeg) rfl rfl cx.1 ?_
      refine zeP rfl rfl ?_
      refine zeWS (k := (x.toNatClampNeg)) rfl (by omega) ?_
      refine zeP rfl rfl ?_
      exact zeRe rfl rfl rfl rfl (by simp only [q_tune, h1, h2, cond_true, cond_false] <;> rfl) (by simp only [q_tune, h1, h2, cond_true, cond_false] <;> rfl)
    · refine zeKn (c := 1) rfl rfl rfl ?_
      refine zeP rfl rfl ?_
      refine zeKn (c := 2) rfl rfl rfl ?_
      refine zeCF rfl rfl rfl rfl rfl rfl (c_thr1 (m := (zm2 m 137 0 (Int32.ofNat 0))) (W := W) (c := 2) ) (by omega) ?_
      dsimp only [Option.toList, List.cons_append, List.nil_append]
      refine zeF1 rfl rfl (show zc1 .eq (Int32.ofNat 1) = false by decide) ?_
      refine zeKn (c := 0) rfl rfl rfl ?_
      exact zeRe rfl rfl rfl rfl (by simp only [q_tune, h1, h2, cond_true, cond_false] <;> rfl) (by simp only [q_tune, h1, h2, cond_true, cond_false] <;> rfl)
  · refine zeKn (c := 1) rfl rfl rfl ?_
    refine zeP rfl rfl ?_
    refine zeKn (c := 1) rfl rfl rfl ?_
    refine zeCF rfl rfl rfl rfl rfl rfl (c_thr1 (m := (zm2 m 137 0 (Int32.ofNat 0))) (W := W) (c := 1) ) (by omega) ?_
    dsimp only [Option.toList, List.cons_append, List.nil_append]
    refine zeT1 rfl rfl (show zc1 .ne (Int32.ofNat 1) = true by decide) ?_
    refine zeKn (c := 0) rfl rfl rfl ?_
    exact zeRe rfl rfl rfl rfl (by simp only [q_tune, h1, cond_true, cond_false] <;> rfl) (by simp only [q_tune, h1, cond_true, cond_false] <;> rfl)
theorem c_tune {σ : Nat → Nat × (Nat → Int32)} {yy : (Nat → Nat → Int64) × Bool × Nat × Nat} {m : Nat → Nat → Int32} {W : Nat → Int32} {x : Int32} {n : Int32} : zF σ 2 1869 [.ref 137, .int x, .int n] (zS1, zrow m 138 W, yy) (.inl (some (.int (q_tune m W x n).1))) (zS1, zrow ((q_tune m W x n).2.2) 138 ((q_tune m W x n).2.1), yy) := by
  intro d hd
  obtain ⟨d, rfl⟩ : ∃ k, d = k + 1 := ⟨d - 1, by omega⟩
  exact p_tune hd 
noncomputable def q_step (m : Nat → Nat → Int32) (W : Nat → Int32) (t : Int32) : Int32 × (Nat → Int32) × (Nat → Nat → Int32) := (bif zc1 .ne (q_noThread m W t).1 then ((Int32.ofNat 0), W, (q_noThread m W t).2) else (bif zc1 .ne (q_isDone W ((t.toNatClampNeg))) then ((Int32.ofNat 0), W, (q_thr1 ((q_noThread m W t).2) 2).2) else (bif zc2 .ne (W 11) (Int32.ofNat 99999) then ((q_steps ((q_noThread m W t).2) W ((t.toNatClampNeg))).1, (q_steps ((q_noThread m W t).2) W ((t.toNatClampNeg))).2.1, (q_steps ((q_noThread m W t).2) W ((t.toNatClampNeg))).2.2) else ((Int32.ofNat 0), W, (q_thr1 ((q_noThread m W t).2) 2).2))))
theorem p_step {σ : Nat → Nat × (Nat → Int32)} {yy : (Nat → Nat → Int64) × Bool × Nat × Nat} {m : Nat → Nat → Int32} {W : Nat → Int32} {t : Int32} {d : Nat} (hd : 10 ≤ d + 1) (hw : WG W) : zEv σ (d + 1) 1864 0 [some (.ref 137), some (.int t)] [] (zS1, zrow m 138 W, yy) (.inl (some (.int (q_step m W t).1))) (zS1, zrow ((q_step m W t).2.2) 138 ((q_step m W t).2.1), yy) := by
  refine zeP rfl rfl ?_
  refine zeP rfl rfl ?_
  refine zeCF rfl rfl rfl rfl rfl rfl (c_noThread (m := m) (W := W) (t := t) ) (by omega) ?_
  dsimp only [Option.toList, List.cons_append, List.nil_append]
  refine zeB1 rfl rfl (fun h1 => ?_) (fun h1 => ?_)
  · refine zeKn (c := 0) rfl rfl rfl ?_
    refine zeP rfl rfl ?_
    exact zeRe rfl rfl rfl rfl (by simp only [q_step, h1, cond_true, cond_false] <;> rfl) (by simp only [q_step, h1, cond_true, cond_false] <;> rfl)
  · have ct : t = Int32.ofNat t.toNatClampNeg ∧ t.toNatClampNeg < nv W 9 := (nT_in hw (by assumption))
    refine zeP rfl rfl ?_
    refine zeP rfl rfl ?_
    refine zeKn (c := t.toNatClampNeg) rfl rfl ct.1 ?_
    refine zeCF rfl rfl rfl rfl rfl rfl (c_isDone (m := (q_noThread m W t).2) (W := W) (t := (t.toNatClampNeg)) (by have := hw.N4; omega)) (by omega) ?_
    dsimp only [Option.toList, List.cons_append, List.nil_append]
    refine zeB1 rfl rfl (fun h2 => ?_) (fun h2 => ?_)
    · refine zeKn (c := 1) rfl rfl rfl ?_
      refine zeP rfl rfl ?_
      refine zeKn (c := 2) rfl rfl rfl ?_
      refine zeCF rfl rfl rfl rfl rfl rfl (c_thr1 (m := (q_noThread m W t).2) (W := W) (c := 2) ) (by omega) ?_
      dsimp only [Option.toList, List.cons_append, List.nil_append]
      refine zeF1 rfl rfl (show zc1 .eq (Int32.ofNat 1) = false by decide) ?_
      refine zeKn (c := 0) rfl rfl rfl ?_
      refine zeP rfl rfl ?_
      exact zeRe rfl rfl rfl rfl (by simp only [q_step, h1, h2, cond_true, cond_false] <;> rfl) (by simp only [q_step, h1, h2, cond_true, cond_false] <;> rfl)
    · refine zeP rfl rfl ?_
      refine zeGR rfl rfl zS137 rfl rfl ?_
      refine zeKn (c := 11) rfl rfl rfl ?_
      refine zeWL (k := 11) rfl (by omega) ?_
      refine zeKn (c := 99999) rfl rfl rfl ?_
      refine zeB2 rfl rfl (fun h3 => ?_) (fun h3 => ?_)
      · refine zeKn (c := 0) rfl rfl rfl ?_
        refine zeKn (c := 2) rfl rfl rfl ?_
        refine zeCF rfl rfl rfl rfl rfl rfl (c_thr0 (m := (q_noThread m W t).2) (W := W) (c := 2) ) (by omega) ?_
        dsimp only [Option.toList, List.cons_append, List.nil_append]
        refine zeT1 rfl rfl (show zc1 .eq (Int32.ofNat 0) = true by decide) ?_
        refine zeP rfl rfl ?_
        refine zeKn (c := t.toNatClampNeg) rfl rfl ct.1 ?_
        refine zeCF rfl rfl rfl rfl rfl rfl (c_steps (m := (q_noThread m W t).2) (W := W) (t := (t.toNatClampNeg)) (nd_KG hw (by have := hw.N4; omega) (by assumption)) (by have := hw.N4; omega)) (by omega) ?_
        dsimp only [Option.toList, List.cons_append, List.nil_append]
        exact zeRe rfl rfl rfl rfl (by simp only [q_step, h1, h2, h3, cond_true, cond_false] <;> rfl) (by simp only [q_step, h1, h2, h3, cond_true, cond_false] <;> rfl)
      · refine zeKn (c := 1) rfl rfl rfl ?_
        refine zeP rfl rfl ?_
        refine zeKn (c := 2) rfl rfl rfl ?_
        refine zeCF rfl rfl rfl rfl rfl rfl (c_thr1 (m := (q_noThread m W t).2) (W := W) (c := 2) ) (by omega) ?_
        dsimp only [Option.toList, List.cons_append, List.nil_append]
        refine zeF1 rfl rfl (show zc1 .eq (Int32.ofNat 1) = false by decide) ?_
        refine zeKn (c := 0) rfl rfl rfl ?_
        refine zeP rfl rfl ?_
        exact zeRe rfl rfl rfl rfl (by simp only [q_step, h1, h2, h3, cond_true, cond_false] <;> rfl) (by simp only [q_step, h1, h2, h3, cond_true, cond_false] <;> rfl)
theorem c_step {σ : Nat → Nat × (Nat → Int32)} {yy : (Nat → Nat → Int64) × Bool × Nat × Nat} {m : Nat → Nat → Int32} {W : Nat → Int32} {t : Int32} (hw : WG W) : zF σ 10 1864 [.ref 137, .int t] (zS1, zrow m 138 W, yy) (.inl (some (.int (q_step m W t).1))) (zS1, zrow ((q_step m W t).2.2) 138 ((q_step m W t).2.1), yy) := by
  intro d hd
  obtain ⟨d, rfl⟩ : ∃ k, d = k + 1 := ⟨d - 1, by omega⟩
  exact p_step hd hw
noncomputable def q_run (m : Nat → Nat → Int32) (W : Nat → Int32) (n : Int32) : Int32 × (Nat → Int32) × (Nat → Nat → Int32) := (bif zc1 .ne (q_in n ((Int32.ofNat 1)) ((Int32.ofNat 100))) then ((q_goesT ((zm2 m 137 0 (Int32.ofNat 0))) W ((n.toNatClampNeg))).1, (q_goesT ((zm2 m 137 0 (Int32.ofNat 0))) W ((n.toNatClampNeg))).2.1, (q_goesT ((zm2 m 137 0 (Int32.ofNat 0))) W ((n.toNatClampNeg))).2.2) else ((Int32.ofNat 0), W, (q_thr1 ((zm2 m 137 0 (Int32.ofNat 0))) 1).2))
theorem p_run {σ : Nat → Nat × (Nat → Int32)} {yy : (Nat → Nat → Int64) × Bool × Nat × Nat} {m : Nat → Nat → Int32} {W : Nat → Int32} {n : Int32} {d : Nat} (hd : 11 ≤ d + 1) (hw : WG W) (hL : LT W) : zEv σ (d + 1) 1866 0 [some (.ref 137), some (.int n)] [] (zS1, zrow m 138 W, yy) (.inl (some (.int (q_run m W n).1))) (zS1, zrow ((q_run m W n).2.2) 138 ((q_run m W n).2.1), yy) := by
  refine zeP rfl rfl ?_
  refine zeKn (c := 0) rfl rfl rfl ?_
  refine zeFP rfl rfl rfl ?_
  refine zeP rfl rfl ?_
  refine zeP rfl rfl ?_
  refine zeKn (c := 1) rfl rfl rfl ?_
  refine zeKn (c := 100) rfl rfl rfl ?_
  refine zeCF rfl rfl rfl rfl rfl rfl (c_in (m := (zm2 m 137 0 (Int32.ofNat 0))) (W := W) (v := n) (lo := (Int32.ofNat 1)) (hi := (Int32.ofNat 100)) ) (by omega) ?_
  dsimp only [Option.toList, List.cons_append, List.nil_append]
  refine zeB1 rfl rfl (fun h1 => ?_) (fun h1 => ?_)
  · refine zeKn (c := 0) rfl rfl rfl ?_
    refine zeKn (c := 1) rfl rfl rfl ?_
    refine zeCF rfl rfl rfl rfl rfl rfl (c_thr0 (m := (zm2 m 137 0 (Int32.ofNat 0))) (W := W) (c := 1) ) (by omega) ?_
    dsimp only [Option.toList, List.cons_append, List.nil_append]
    refine zeT1 rfl rfl (show zc1 .eq (Int32.ofNat 0) = true by decide) ?_
    have cn : n = Int32.ofNat n.toNatClampNeg ∧ (1 ≤ n.toNatClampNeg ∧ n.toNatClampNeg ≤ 100) := (in_1 (by omega) (by omega) (by assumption))
    refine zeP rfl rfl ?_
    refine zeKn (c := n.toNatClampNeg) rfl rfl cn.1 ?_
    refine zeKn (c := 0) rfl rfl rfl ?_
    refine zeCF rfl rfl rfl rfl rfl rfl (c_goesT (m := (zm2 m 137 0 (Int32.ofNat 0))) (W := W) (q := (n.toNatClampNeg)) (by omega) hw hL) (by omega) ?_
    dsimp only [Option.toList, List.cons_append, List.nil_append]
    exact zeRe rfl rfl rfl rfl (by simp only [q_run, h1, cond_true, cond_false] <;> rfl) (by simp only [q_run, h1, cond_true, cond_false] <;> rfl)
  · refine zeKn (c := 1) rfl rfl rfl ?_
    refine zeP rfl rfl ?_
    refine zeKn (c := 1) rfl rfl rfl ?_
    refine zeCF rfl rfl rfl rfl rfl rfl (c_thr1 (m := (zm2 m 137 0 (Int32.ofNat 0))) (W := W) (c := 1) ) (by omega) ?_
    dsimp only [Option.toList, List.cons_append, List.nil_append]
    refine zeF1 rfl rfl (show zc1 .eq (Int32.ofNat 1) = false by decide) ?_
    refine zeKn (c := 0) rfl rfl rfl ?_
    refine zeP rfl rfl ?_
    exact zeRe rfl rfl rfl rfl (by simp only [q_run, h1, cond_true, cond_false] <;> rfl) (by simp only [q_run, h1, cond_true, cond_false] <;> rfl)
theorem c_run {σ : Nat → Nat × (Nat → Int32)} {yy : (Nat → Nat → Int64) × Bool × Nat × Nat} {m : Nat → Nat → Int32} {W : Nat → Int32} {n : Int32} (hw : WG W) (hL : LT W) : zF σ 11 1866 [.ref 137, .int n] (zS1, zrow m 138 W, yy) (.inl (some (.int (q_run m W n).1))) (zS1, zrow ((q_run m W n).2.2) 138 ((q_run m W n).2.1), yy) := by
  intro d hd
  obtain ⟨d, rfl⟩ : ∃ k, d = k + 1 := ⟨d - 1, by omega⟩
  exact p_run hd hw hL
noncomputable def q_chance (m : Nat → Nat → Int32) (W : Nat → Int32) (n : Int32) : Int32 × (Nat → Int32) × (Nat → Nat → Int32) := (bif zc1 .ne (q_in n ((Int32.ofNat 1)) ((Int32.ofNat 100))) then ((q_goesD ((zm2 m 137 0 (Int32.ofNat 0))) W ((n.toNatClampNeg))).1, (q_goesD ((zm2 m 137 0 (Int32.ofNat 0))) W ((n.toNatClampNeg))).2.1, (q_goesD ((zm2 m 137 0 (Int32.ofNat 0))) W ((n.toNatClampNeg))).2.2) else ((Int32.ofNat 0), W, (q_thr1 ((zm2 m 137 0 (Int32.ofNat 0))) 1).2))
theorem p_chance {σ : Nat → Nat × (Nat → Int32)} {yy : (Nat → Nat → Int64) × Bool × Nat × Nat} {m : Nat → Nat → Int32} {W : Nat → Int32} {n : Int32} {d : Nat} (hd : 11 ≤ d + 1) (hw : WG W) (hL : LT W) : zEv σ (d + 1) 1867 0 [some (.ref 137), some (.int n)] [] (zS1, zrow m 138 W, yy) (.inl (some (.int (q_chance m W n).1))) (zS1, zrow ((q_chance m W n).2.2) 138 ((q_chance m W n).2.1), yy) := by
  refine zeP rfl rfl ?_
  refine zeKn (c := 0) rfl rfl rfl ?_
  refine zeFP rfl rfl rfl ?_
  refine zeP rfl rfl ?_
  refine zeP rfl rfl ?_
  refine zeKn (c := 1) rfl rfl rfl ?_
  refine zeKn (c := 100) rfl rfl rfl ?_
  refine zeCF rfl rfl rfl rfl rfl rfl (c_in (m := (zm2 m 137 0 (Int32.ofNat 0))) (W := W) (v := n) (lo := (Int32.ofNat 1)) (hi := (Int32.ofNat 100)) ) (by omega) ?_
  dsimp only [Option.toList, List.cons_append, List.nil_append]
  refine zeB1 rfl rfl (fun h1 => ?_) (fun h1 => ?_)
  · refine zeKn (c := 0) rfl rfl rfl ?_
    refine zeKn (c := 1) rfl rfl rfl ?_
    refine zeCF rfl rfl rfl rfl rfl rfl (c_thr0 (m := (zm2 m 137 0 (Int32.ofNat 0))) (W := W) (c := 1) ) (by omega) ?_
    dsimp only [Option.toList, List.cons_append, List.nil_append]
    refine zeT1 rfl rfl (show zc1 .eq (Int32.ofNat 0) = true by decide) ?_
    have cn : n = Int32.ofNat n.toNatClampNeg ∧ (1 ≤ n.toNatClampNeg ∧ n.toNatClampNeg ≤ 100) := (in_1 (by omega) (by omega) (by assumption))
    refine zeP rfl rfl ?_
    refine zeKn (c := n.toNatClampNeg) rfl rfl cn.1 ?_
    refine zeKn (c := 1) rfl rfl rfl ?_
    refine zeCF rfl rfl rfl rfl rfl rfl (c_goesD (m := (zm2 m 137 0 (Int32.ofNat 0))) (W := W) (q := (n.toNatClampNeg)) (by omega) hw hL) (by omega) ?_
    dsimp only [Option.toList, List.cons_append, List.nil_append]
    exact zeRe rfl rfl rfl rfl (by simp only [q_chance, h1, cond_true, cond_false] <;> rfl) (by simp only [q_chance, h1, cond_true, cond_false] <;> rfl)
  · refine zeKn (c := 1) rfl rfl rfl ?_
    refine zeP rfl rfl ?_
    refine zeKn (c := 1) rfl rfl rfl ?_
    refine zeCF rfl rfl rfl rfl rfl rfl (c_thr1 (m := (zm2 m 137 0 (Int32.ofNat 0))) (W := W) (c := 1) ) (by omega) ?_
    dsimp only [Option.toList, List.cons_append, List.nil_append]
    refine zeF1 rfl rfl (show zc1 .eq (Int32.ofNat 1) = false by decide) ?_
    refine zeKn (c := 0) rfl rfl rfl ?_
    refine zeP rfl rfl ?_
    exact zeRe rfl rfl rfl rfl (by simp only [q_chance, h1, cond_true, cond_false] <;> rfl) (by simp only [q_chance, h1, cond_true, cond_false] <;> rfl)
theorem c_chance {σ : Nat → Nat × (Nat → Int32)} {yy : (Nat → Nat → Int64) × Bool × Nat × Nat} {m : Nat → Nat → Int32} {W : Nat → Int32} {n : Int32} (hw : WG W) (hL : LT W) : zF σ 11 1867 [.ref 137, .int n] (zS1, zrow m 138 W, yy) (.inl (some (.int (q_chance m W n).1))) (zS1, zrow ((q_chance m W n).2.2) 138 ((q_chance m W n).2.1), yy) := by
  intro d hd
  obtain ⟨d, rfl⟩ : ∃ k, d = k + 1 := ⟨d - 1, by omega⟩
  exact p_chance hd hw hL
noncomputable def q_poke (m : Nat → Nat → Int32) (W : Nat → Int32) (w : Int32) (v : Int32) : Int32 × (Nat → Int32) × (Nat → Nat → Int32) := (bif zc1 .ne (q_in w ((Int32.ofNat 0)) ((Int32.ofNat 31))) then (bif zc1 .ne (q_in v ((Int32.ofNat 0)) ((Int32.ofNat 9999))) then ((W (32 + (w.toNatClampNeg))), (q_writesX W ((w.toNatClampNeg)) v).2, (zm2 m 137 0 (Int32.ofNat 0))) else ((Int32.ofNat 0), W, (q_thr1 ((zm2 m 137 0 (Int32.ofNat 0))) 2).2)) else ((Int32.ofNat 0), W, (q_thr1 ((zm2 m 137 0 (Int32.ofNat 0))) 1).2))
theorem p_poke {σ : Nat → Nat × (Nat → Int32)} {yy : (Nat → Nat → Int64) × Bool × Nat × Nat} {m : Nat → Nat → Int32} {W : Nat → Int32} {w : Int32} {v : Int32} {d : Nat} (hd : 6 ≤ d + 1) (hw : WG W) : zEv σ (d + 1) 1868 0 [some (.ref 137), some (.int w), some (.int v), none, none] [] (zS1, zrow m 138 W, yy) (.inl (some (.int (q_poke m W w v).1))) (zS1, zrow ((q_poke m W w v).2.2) 138 ((q_poke m W w v).2.1), yy) := by
  refine zeP rfl rfl ?_
  refine zeKn (c := 0) rfl rfl rfl ?_
  refine zeFP rfl rfl rfl ?_
  refine zeP rfl rfl ?_
  refine zeP rfl rfl ?_
  refine zeKn (c := 0) rfl rfl rfl ?_
  refine zeKn (c := 31) rfl rfl rfl ?_
  refine zeCF rfl rfl rfl rfl rfl rfl (c_in (m := (zm2 m 137 0 (Int32.ofNat 0))) (W := W) (v := w) (lo := (Int32.ofNat 0)) (hi := (Int32.ofNat 31)) ) (by omega) ?_
  dsimp only [Option.toList, List.cons_append, List.nil_append]
  refine zeB1 rfl rfl (fun h1 => ?_) (fun h1 => ?_)
  · refine zeKn (c := 0) rfl rfl rfl ?_
    refine zeKn (c := 1) rfl rfl rfl ?_
    refine zeCF rfl rfl rfl rfl rfl rfl (c_thr0 (m := (zm2 m 137 0 (Int32.ofNat 0))) (W := W) (c := 1) ) (by omega) ?_
    dsimp only [Option.toList, List.cons_append, List.nil_append]
    refine zeF1 rfl rfl (show zc1 .ne (Int32.ofNat 0) = false by decide) ?_
    refine zeP rfl rfl ?_
    refine zeP rfl rfl ?_
    refine zeKn (c := 0) rfl rfl rfl ?_
    refine zeKn (c := 9999) rfl rfl rfl ?_
    refine zeCF rfl rfl rfl rfl rfl rfl (c_in (m := (zm2 m 137 0 (Int32.ofNat 0))) (W := W) (v := v) (lo := (Int32.ofNat 0)) (hi := (Int32.ofNat 9999)) ) (by omega) ?_
    dsimp only [Option.toList, List.cons_append, List.nil_append]
    refine zeB1 rfl rfl (fun h2 => ?_) (fun h2 => ?_)
    · refine zeKn (c := 0) rfl rfl rfl ?_
      refine zeKn (c := 2) rfl rfl rfl ?_
      refine zeCF rfl rfl rfl rfl rfl rfl (c_thr0 (m := (zm2 m 137 0 (Int32.ofNat 0))) (W := W) (c := 2) ) (by omega) ?_
      dsimp only [Option.toList, List.cons_append, List.nil_append]
      refine zeT1 rfl rfl (show zc1 .eq (Int32.ofNat 0) = true by decide) ?_
      have cw : w = Int32.ofNat w.toNatClampNeg ∧ (0 ≤ w.toNatClampNeg ∧ w.toNatClampNeg ≤ 31) := (in_1 (by omega) (by omega) (by assumption))
      refine zeP rfl rfl ?_
      refine zeGR rfl rfl zS137 rfl rfl ?_
      refine zeKn (c := 32) rfl rfl rfl ?_
      refine zeKn (c := w.toNatClampNeg) rfl rfl cw.1 ?_
      refine zeAdd rfl ?_
      refine zeWL (k := (32 + (w.toNatClampNeg))) rfl (by omega) ?_
      refine zeP rfl rfl ?_
      refine zeP rfl rfl ?_
      refine zeK (v := -1) rfl rfl rfl ?_
      refine zeKn (c := w.toNatClampNeg) rfl rfl cw.1 ?_
      refine zeP rfl rfl ?_
      refine zeCF rfl rfl rfl rfl rfl rfl (c_writesX (m := (zm2 m 137 0 (Int32.ofNat 0))) (W := W) (w := (w.toNatClampNeg)) (v := v) hw (by omega)) (by omega) ?_
      dsimp only [Option.toList, List.cons_append, List.nil_append]
      refine zeP rfl rfl ?_
      refine zeP rfl rfl ?_
      exact zeRe rfl rfl rfl rfl (by simp only [q_poke, h1, h2, cond_true, cond_false] <;> rfl) (by simp only [q_poke, h1, h2, cond_true, cond_false] <;> rfl)
    · refine zeKn (c := 1) rfl rfl rfl ?_
      refine zeP rfl rfl ?_
      refine zeKn (c := 2) rfl rfl rfl ?_
      refine zeCF rfl rfl rfl rfl rfl rfl (c_thr1 (m := (zm2 m 137 0 (Int32.ofNat 0))) (W := W) (c := 2) ) (by omega) ?_
      dsimp only [Option.toList, List.cons_append, List.nil_append]
      refine zeF1 rfl rfl (show zc1 .eq (Int32.ofNat 1) = false by decide) ?_
      refine zeKn (c := 0) rfl rfl rfl ?_
      exact zeRe rfl rfl rfl rfl (by simp only [q_poke, h1, h2, cond_true, cond_false] <;> rfl) (by simp only [q_poke, h1, h2, cond_true, cond_false] <;> rfl)
  · refine zeKn (c := 1) rfl rfl rfl ?_
    refine zeP rfl rfl ?_
    refine zeKn (c := 1) rfl rfl rfl ?_
    refine zeCF rfl rfl rfl rfl rfl rfl (c_thr1 (m := (zm2 m 137 0 (Int32.ofNat 0))) (W := W) (c := 1) ) (by omega) ?_
    dsimp only [Option.toList, List.cons_append, List.nil_append]
    refine zeT1 rfl rfl (show zc1 .ne (Int32.ofNat 1) = true by decide) ?_
    refine zeKn (c := 0) rfl rfl rfl ?_
    exact zeRe rfl rfl rfl rfl (by simp only [q_poke, h1, cond_true, cond_false] <;> rfl) (by simp only [q_poke, h1, cond_true, cond_false] <;> rfl)
theorem c_poke {σ : Nat → Nat × (Nat → Int32)} {yy : (Nat → Nat → Int64) × Bool × Nat × Nat} {m : Nat → Nat → Int32} {W : Nat → Int32} {w : Int32} {v : Int32} (hw : WG W) : zF σ 6 1868 [.ref 137, .int w, .int v] (zS1, zrow m 138 W, yy) (.inl (some (.int (q_poke m W w v).1))) (zS1, zrow ((q_poke m W w v).2.2) 138 ((q_poke m W w v).2.1), yy) := by
  intro d hd
  obtain ⟨d, rfl⟩ : ∃ k, d = k + 1 := ⟨d - 1, by omega⟩
  exact p_poke hd hw
end
