theorem zlt4 {W : Nat → Int32} (h : WG W) {t : Nat} (ht : t < 4) (hc : zc2 .lt (Int32.ofNat (nv W (376 + 103 * t + 10))) (Int32.ofNat (nv W 2)) = true) : nv W (376 + 103 * t + 10) < 4 := by
  have h1 := (h.2 t ht).2.1.2.2
  have h2 := h.1.2.1.2.2
  have h3 := zlt_t (by omega) (by omega) hc
  omega
theorem WG.lk32 {W : Nat → Int32} (h : WG W) {l : Nat} (hl : l < 4) : nv W (16 + l) < 32 := Nat.lt_succ_of_le (h.lkw hl).2.2
def q_takesD (m : Nat → Nat → Int32) (W : Nat → Int32) (t : Nat) (l : Nat) (w : Nat) (f : Int32) : Int32 × (Nat → Int32) × (Nat → Nat → Int32) := (bif zc2 .eq (q_placeLeft W t ((Int32.ofNat l))) (-1) then ((Int32.ofNat 0), (q_itFalls m W t 4).1, (q_itFalls m W t 4).2) else ((Int32.ofNat 0), (q_itFalls m W t 2).1, (q_itFalls m W t 2).2))
theorem p_takesD {σ : Nat → Nat × (Nat → Int32)} {yy : (Nat → Nat → Int64) × Bool × Nat × Nat} {m : Nat → Nat → Int32} {W : Nat → Int32} {t : Nat} {l : Nat} {w : Nat} {f : Int32} {d : Nat} (hd : 5 ≤ d + 1) (hk : KG W t) (ht : t < 4) : zEv σ (d + 1) 1829 62 [some (.ref 137), some (.int (Int32.ofNat t)), some (.int (Int32.ofNat l)), some (.int (Int32.ofNat w)), some (.int f)] [] (zS1, zrow m 138 W, yy) (.inl (some (.int (q_takesD m W t l w f).1))) (zS1, zrow ((q_takesD m W t l w f).2.2) 138 ((q_takesD m W t l w f).2.1), yy) := by
  refine zeP rfl rfl ?_
  refine zeP rfl rfl ?_
  refine zeP rfl rfl ?_
  refine zeP rfl rfl ?_
  refine zeP rfl rfl ?_
  refine zeCF rfl rfl rfl rfl rfl rfl (c_placeLeft (m := m) (W := W) (t := t) (l := (Int32.ofNat l)) ht (hk.1.2 t ht).2.1.1 (hk.1.2 t ht).2.1.2.2) (by omega) ?_
  dsimp only [Option.toList, List.cons_append, List.nil_append]
  refine zeK (v := -1) rfl rfl rfl ?_
  refine zeB2 rfl rfl (fun h1 => ?_) (fun h1 => ?_)
  · refine zeKn (c := 4) rfl rfl rfl ?_
    refine zeCF rfl rfl rfl rfl rfl rfl (c_itFalls (m := m) (W := W) (t := t) (y := 4) ht (by omega) (hk.1.L t ht).1 (hk.1.L t ht).2 hk.1.C.1 hk.1.C.2) (by omega) ?_
    dsimp only [Option.toList, List.cons_append, List.nil_append]
    refine zeKn (c := 0) rfl rfl rfl ?_
    exact zeRe rfl rfl rfl rfl (by simp only [q_takesD, h1, cond_true, cond_false] <;> rfl) (by simp only [q_takesD, h1, cond_true, cond_false] <;> rfl)
  · refine zeKn (c := 2) rfl rfl rfl ?_
    refine zeP rfl rfl ?_
    refine zeCF rfl rfl rfl rfl rfl rfl (c_itFalls (m := m) (W := W) (t := t) (y := 2) ht (by omega) (hk.1.L t ht).1 (hk.1.L t ht).2 hk.1.C.1 hk.1.C.2) (by omega) ?_
    dsimp only [Option.toList, List.cons_append, List.nil_append]
    refine zeKn (c := 0) rfl rfl rfl ?_
    exact zeRe rfl rfl rfl rfl (by simp only [q_takesD, h1, cond_true, cond_false] <;> rfl) (by simp only [q_takesD, h1, cond_true, cond_false] <;> rfl)
def q_takesC (m : Nat → Nat → Int32) (W : Nat → Int32) (t : Nat) (l : Nat) (w : Nat) (f : Int32) : Int32 × (Nat → Int32) × (Nat → Nat → Int32) := (bif zc2 .ne (q_of W t 2) (Int32.ofNat 1) then (bif zc1 .ne f then (bif zc2 .ge (q_of W t 3) (W 1) then ((Int32.ofNat 1), (q_isTaken ((q_writes m W t w ((Int32.ofNat 1))).2.1) t l), (q_writes m W t w ((Int32.ofNat 1))).2.2) else (bif zc2 .lt (W (20 + l)) (W 4) then ((Int32.ofNat 1), (q_isTaken ((q_writes m W t w ((Int32.ofNat 1))).2.1) t l), (q_writes m W t w ((Int32.ofNat 1))).2.2) else ((Int32.ofNat 1), (q_beginsGuess W t l), m))) else ((Int32.ofNat 0), W, m)) else (bif zc2 .ne (q_placeLeft W t ((Int32.ofNat l))) (-1) then (q_takesD m W t l w f) else (bif zc1 .ne f then (bif zc2 .lt (Int32.ofNat (nv W (376 + 103 * t + 10))) (Int32.ofNat (nv W 2)) then ((Int32.ofNat 1), (q_leavesOut W t l), m) else ((q_writes m W t w ((Int32.ofNat 1))).1, (q_writes m W t w ((Int32.ofNat 1))).2.1, (q_writes m W t w ((Int32.ofNat 1))).2.2)) else (q_takesD m W t l w f))))
theorem p_takesC {σ : Nat → Nat × (Nat → Int32)} {yy : (Nat → Nat → Int64) × Bool × Nat × Nat} {m : Nat → Nat → Int32} {W : Nat → Int32} {t : Nat} {l : Nat} {w : Nat} {f : Int32} {d : Nat} (hd : 7 ≤ d + 1) (hk : KG W t) (ht : t < 4) (hl : l < 4) (h32 : w < 32) : zEv σ (d + 1) 1829 37 [some (.ref 137), some (.int (Int32.ofNat t)), some (.int (Int32.ofNat l)), some (.int (Int32.ofNat w)), some (.int f)] [] (zS1, zrow m 138 W, yy) (.inl (some (.int (q_takesC m W t l w f).1))) (zS1, zrow ((q_takesC m W t l w f).2.2) 138 ((q_takesC m W t l w f).2.1), yy) := by
  refine zeP rfl rfl ?_
  refine zeP rfl rfl ?_
  refine zeKn (c := 2) rfl rfl rfl ?_
  refine zeCF rfl rfl rfl rfl rfl rfl (c_of (m := m) (W := W) (t := t) (k := 2) (by first | assumption | omega)) (by omega) ?_
  dsimp only [Option.toList, List.cons_append, List.nil_append]
  refine zeKn (c := 1) rfl rfl rfl ?_
  refine zeB2 rfl rfl (fun h1 => ?_) (fun h1 => ?_)
  · refine zeP rfl rfl ?_
    refine zeB1 rfl rfl (fun h2 => ?_) (fun h2 => ?_)
    · refine zeP rfl rfl ?_
      refine zeP rfl rfl ?_
      refine zeKn (c := 3) rfl rfl rfl ?_
      refine zeCF rfl rfl rfl rfl rfl rfl (c_of (m := m) (W := W) (t := t) (k := 3) (by first | assumption | omega)) (by omega) ?_
      dsimp only [Option.toList, List.cons_append, List.nil_append]
      refine zeP rfl rfl ?_
      refine zeGR rfl rfl zS137 rfl rfl ?_
      refine zeKn (c := 1) rfl rfl rfl ?_
      refine zeWL (k := 1) rfl (by omega) ?_
      refine zeB2 rfl rfl (fun h3 => ?_) (fun h3 => ?_)
      · refine zeP rfl rfl ?_
        refine zeP rfl rfl ?_
        refine zeP rfl rfl ?_
        refine zeKn (c := 1) rfl rfl rfl ?_
        refine zeCF rfl rfl rfl rfl rfl rfl (c_writes (m := m) (W := W) (t := t) (w := w) (v := (Int32.ofNat 1)) hk.1 ht h32) (by omega) ?_
        dsimp only [Option.toList, List.cons_append, List.nil_append]
        refine zeP rfl rfl ?_
        refine zeP rfl rfl ?_
        refine zeP rfl rfl ?_
        refine zeP rfl rfl ?_
        refine zeCF rfl rfl rfl rfl rfl rfl (c_isTaken (m := (q_writes m W t w ((Int32.ofNat 1))).2.2) (W := (q_writes m W t w ((Int32.ofNat 1))).2.1) (t := t) (l := l) (hk.writes ht h32 _).1 ht hl) (by omega) ?_
        dsimp only [Option.toList, List.cons_append, List.nil_append]
        refine zeKn (c := 1) rfl rfl rfl ?_
        exact zeRe rfl rfl rfl rfl (by simp only [q_takesC, h1, h2, h3, cond_true, cond_false] <;> rfl) (by simp only [q_takesC, h1, h2, h3, cond_true, cond_false] <;> rfl)
      · refine zeP rfl rfl ?_
        refine zeGR rfl rfl zS137 rfl rfl ?_
        refine zeKn (c := 20) rfl rfl rfl ?_
        refine zeP rfl rfl ?_
        refine zeAdd rfl ?_
        refine zeWL (k := (20 + l)) rfl (by omega) ?_
        refine zeP rfl rfl ?_
        refine zeGR rfl rfl zS137 rfl rfl ?_
        refine zeKn (c := 4) rfl rfl rfl ?_
        refine zeWL (k := 4) rfl (by omega) ?_
        refine zeB2 rfl rfl (fun h4 => ?_) (fun h4 => ?_)
        · refine zeP rfl rfl ?_
          refine zeP rfl rfl ?_
          refine zeP rfl rfl ?_
          refine zeKn (c := 1) rfl rfl rfl ?_
          refine zeCF rfl rfl rfl rfl rfl rfl (c_writes (m := m) (W := W) (t := t) (w := w) (v := (Int32.ofNat 1)) hk.1 ht h32) (by omega) ?_
          dsimp only [Option.toList, List.cons_append, List.nil_append]
          refine zeP rfl rfl ?_
          refine zeP rfl rfl ?_
          refine zeP rfl rfl ?_
          refine zeP rfl rfl ?_
          refine zeCF rfl rfl rfl rfl rfl rfl (c_isTaken (m := (q_writes m W t w ((Int32.ofNat 1))).2.2) (W := (q_writes m W t w ((Int32.ofNat 1))).2.1) (t := t) (l := l) (hk.writes ht h32 _).1 ht hl) (by omega) ?_
          dsimp only [Option.toList, List.cons_append, List.nil_append]
          refine zeKn (c := 1) rfl rfl rfl ?_
          exact zeRe rfl rfl rfl rfl (by simp only [q_takesC, h1, h2, h3, h4, cond_true, cond_false] <;> rfl) (by simp only [q_takesC, h1, h2, h3, h4, cond_true, cond_false] <;> rfl)
        · refine zeP rfl rfl ?_
          refine zeP rfl rfl ?_
          refine zeP rfl rfl ?_
          refine zeCF rfl rfl rfl rfl rfl rfl (c_beginsGuess (m := m) (W := W) (t := t) (l := l) hk.1 ht hl (hk.1.idle ht (by assumption))) (by omega) ?_
          dsimp only [Option.toList, List.cons_append, List.nil_append]
          refine zeP rfl rfl ?_
          refine zeKn (c := 1) rfl rfl rfl ?_
          exact zeRe rfl rfl rfl rfl (by simp only [q_takesC, h1, h2, h3, h4, cond_true, cond_false] <;> rfl) (by simp only [q_takesC, h1, h2, h3, h4, cond_true, cond_false] <;> rfl)
    · refine zeKn (c := 0) rfl rfl rfl ?_
      exact zeRe rfl rfl rfl rfl (by simp only [q_takesC, h1, h2, cond_true, cond_false] <;> rfl) (by simp only [q_takesC, h1, h2, cond_true, cond_false] <;> rfl)
  · refine zeP rfl rfl ?_
    refine zeP rfl rfl ?_
    refine zeP rfl rfl ?_
    refine zeCF rfl rfl rfl rfl rfl rfl (c_placeLeft (m := m) (W := W) (t := t) (l := (Int32.ofNat l)) ht (hk.1.2 t ht).2.1.1 (hk.1.2 t ht).2.1.2.2) (by omega) ?_
    dsimp only [Option.toList, List.cons_append, List.nil_append]
    refine zeK (v := -1) rfl rfl rfl ?_
    refine zeB2 rfl rfl (fun h5 => ?_) (fun h5 => ?_)
    · simp only [q_takesC, h1, h5, cond_true, cond_false]
      exact p_takesD (t := t) (l := l) (w := w) (f := f) (W := W) (m := m) (by omega) hk ht
    · refine zeP rfl rfl ?_
      refine zeB1 rfl rfl (fun h6 => ?_) (fun h6 => ?_)
      · refine zeP rfl rfl ?_
        refine zeP rfl rfl ?_
        refine zeKn (c := 10) rfl rfl rfl ?_
        refine zeCF rfl rfl rfl rfl rfl rfl (c_of (m := m) (W := W) (t := t) (k := 10) (by first | assumption | omega)) (by omega) ?_
        dsimp only [Option.toList, List.cons_append, List.nil_append]
        rw [show q_of W t 10 = Int32.ofNat (nv W (376 + 103 * t + 10)) from (hk.1.2 t ht).2.1.1]
        refine zeP rfl rfl ?_
        refine zeGR rfl rfl zS137 rfl rfl ?_
        refine zeKn (c := 2) rfl rfl rfl ?_
        refine zeWL (k := 2) rfl (by omega) ?_
        rw [hk.1.1.2.1.1]
        refine zeB2 rfl rfl (fun h7 => ?_) (fun h7 => ?_)
        · refine zeP rfl rfl ?_
          refine zeP rfl rfl ?_
          refine zeP rfl rfl ?_
          refine zeCF rfl rfl rfl rfl rfl rfl (c_leavesOut (m := m) (W := W) (t := t) (l := l) ht (hk.1.2 t ht).2.1.1 (zlt4 hk.1 ht (by assumption))) (by omega) ?_
          dsimp only [Option.toList, List.cons_append, List.nil_append]
          refine zeKn (c := 1) rfl rfl rfl ?_
          exact zeRe rfl rfl rfl rfl (by simp only [q_takesC, h1, h5, h6, h7, cond_true, cond_false] <;> rfl) (by simp only [q_takesC, h1, h5, h6, h7, cond_true, cond_false] <;> rfl)
        · refine zeP rfl rfl ?_
          refine zeP rfl rfl ?_
          refine zeP rfl rfl ?_
          refine zeKn (c := 1) rfl rfl rfl ?_
          refine zeCF rfl rfl rfl rfl rfl rfl (c_writes (m := m) (W := W) (t := t) (w := w) (v := (Int32.ofNat 1)) hk.1 ht h32) (by omega) ?_
          dsimp only [Option.toList, List.cons_append, List.nil_append]
          exact zeRe rfl rfl rfl (zretB rfl rfl writes_01) (by simp only [q_takesC, h1, h5, h6, h7, cond_true, cond_false] <;> rfl) (by simp only [q_takesC, h1, h5, h6, h7, cond_true, cond_false] <;> rfl)
      · simp only [q_takesC, h1, h5, h6, cond_true, cond_false]
        exact p_takesD (t := t) (l := l) (w := w) (f := f) (W := W) (m := m) (by omega) hk ht
def q_takesB (m : Nat → Nat → Int32) (W : Nat → Int32) (t : Nat) (l : Nat) (w : Nat) : Int32 × (Nat → Int32) × (Nat → Nat → Int32) := (bif zc1 .ne (q_seen W t w) then (q_takesC m W t l w ((Int32.ofNat 0))) else (q_takesC m W t l w ((Int32.ofNat 1))))
theorem p_takesB {σ : Nat → Nat × (Nat → Int32)} {yy : (Nat → Nat → Int64) × Bool × Nat × Nat} {m : Nat → Nat → Int32} {W : Nat → Int32} {t : Nat} {l : Nat} {w : Nat} {d : Nat} (hd : 7 ≤ d + 1) (hk : KG W t) (ht : t < 4) (hl : l < 4) (h32 : w < 32) : zEv σ (d + 1) 1829 21 [some (.ref 137), some (.int (Int32.ofNat t)), some (.int (Int32.ofNat l)), some (.int (Int32.ofNat w)), none] [] (zS1, zrow m 138 W, yy) (.inl (some (.int (q_takesB m W t l w).1))) (zS1, zrow ((q_takesB m W t l w).2.2) 138 ((q_takesB m W t l w).2.1), yy) := by
  refine zeP rfl rfl ?_
  refine zeP rfl rfl ?_
  refine zeP rfl rfl ?_
  refine zeCF rfl rfl rfl rfl rfl rfl (c_seen (m := m) (W := W) (t := t) (w := w) ht h32) (by omega) ?_
  dsimp only [Option.toList, List.cons_append, List.nil_append]
  refine zeB1 rfl rfl (fun h1 => ?_) (fun h1 => ?_)
  · refine zeKn (c := 0) rfl rfl rfl ?_
    refine zeP rfl rfl ?_
    simp only [q_takesB, h1, cond_true, cond_false]
    exact p_takesC (t := t) (l := l) (w := w) (f := (Int32.ofNat 0)) (W := W) (m := m) (by omega) hk ht hl h32
  · refine zeKn (c := 1) rfl rfl rfl ?_
    refine zeP rfl rfl ?_
    refine zeP rfl rfl ?_
    simp only [q_takesB, h1, cond_true, cond_false]
    exact p_takesC (t := t) (l := l) (w := w) (f := (Int32.ofNat 1)) (W := W) (m := m) (by omega) hk ht hl h32
def q_takes (m : Nat → Nat → Int32) (W : Nat → Int32) (t : Nat) (l : Nat) : Int32 × (Nat → Int32) × (Nat → Nat → Int32) := (bif zc1 .ne (q_reads m W t ((Int32.ofNat (nv W (16 + l))))).1 then (q_takesB ((q_reads m W t ((Int32.ofNat (nv W (16 + l))))).2.2) ((q_reads m W t ((Int32.ofNat (nv W (16 + l))))).2.1) t l ((nv W (16 + l)))) else ((Int32.ofNat 0), (q_reads m W t ((Int32.ofNat (nv W (16 + l))))).2.1, (q_reads m W t ((Int32.ofNat (nv W (16 + l))))).2.2))
theorem p_takes {σ : Nat → Nat × (Nat → Int32)} {yy : (Nat → Nat → Int64) × Bool × Nat × Nat} {m : Nat → Nat → Int32} {W : Nat → Int32} {t : Nat} {l : Nat} {d : Nat} (hd : 7 ≤ d + 1) (hk : KG W t) (ht : t < 4) (hl : l < 4) : zEv σ (d + 1) 1829 0 [some (.ref 137), some (.int (Int32.ofNat t)), some (.int (Int32.ofNat l)), none, none] [] (zS1, zrow m 138 W, yy) (.inl (some (.int (q_takes m W t l).1))) (zS1, zrow ((q_takes m W t l).2.2) 138 ((q_takes m W t l).2.1), yy) := by
  refine zeP rfl rfl ?_
  refine zeGR rfl rfl zS137 rfl rfl ?_
  refine zeKn (c := 16) rfl rfl rfl ?_
  refine zeP rfl rfl ?_
  refine zeAdd rfl ?_
  refine zeWL (k := (16 + l)) rfl (by omega) ?_
  rw [(hk.1.lkw hl).1]
  refine zeP rfl rfl ?_
  refine zeP rfl rfl ?_
  refine zeP rfl rfl ?_
  refine zeP rfl rfl ?_
  refine zeCF rfl rfl rfl rfl rfl rfl (c_reads (m := m) (W := W) (t := t) (w := (Int32.ofNat (nv W (16 + l)))) hk.1 ht) (by omega) ?_
  dsimp only [Option.toList, List.cons_append, List.nil_append]
  refine zeB1 rfl rfl (fun h1 => ?_) (fun h1 => ?_)
  · simp only [q_takes, h1, cond_true, cond_false]
    exact p_takesB (t := t) (l := l) (w := (nv W (16 + l))) (W := (q_reads m W t ((Int32.ofNat (nv W (16 + l))))).2.1) (m := (q_reads m W t ((Int32.ofNat (nv W (16 + l))))).2.2) (by omega) (hk.reads ht _) ht hl (hk.1.lk32 hl)
  · refine zeKn (c := 0) rfl rfl rfl ?_
    exact zeRe rfl rfl rfl rfl (by simp only [q_takes, h1, cond_true, cond_false] <;> rfl) (by simp only [q_takes, h1, cond_true, cond_false] <;> rfl)
theorem c_takes {σ : Nat → Nat × (Nat → Int32)} {yy : (Nat → Nat → Int64) × Bool × Nat × Nat} {m : Nat → Nat → Int32} {W : Nat → Int32} {t : Nat} {l : Nat} (hk : KG W t) (ht : t < 4) (hl : l < 4) : zF σ 7 1829 [.ref 137, .int (Int32.ofNat t), .int (Int32.ofNat l)] (zS1, zrow m 138 W, yy) (.inl (some (.int (q_takes m W t l).1))) (zS1, zrow ((q_takes m W t l).2.2) 138 ((q_takes m W t l).2.1), yy) := by
  intro d hd
  obtain ⟨d, rfl⟩ : ∃ k, d = k + 1 := ⟨d - 1, by omega⟩
  exact p_takes hd hk ht hl
def l_isKept (t : Nat) (l : Nat) : Nat → Nat → (Nat → Int32) → (Nat → Int32)
  | 0, k, W => (q_logs ((q_ends ((upd ((upd ((upd ((upd W (20 + l) (if ((W (20 + l)) + (W 5)) < (Int32.ofNat 15) then ((W (20 + l)) + (W 5)) else (Int32.ofNat 15)))) (28 + l) ((((upd W (20 + l) (if ((W (20 + l)) + (W 5)) < (Int32.ofNat 15) then ((W (20 + l)) + (W 5)) else (Int32.ofNat 15)))) (28 + l)) + (Int32.ofNat 1)))) (376 + 103 * t + 3) (Int32.ofNat 0))) (376 + 103 * t + 4) ((((upd ((upd ((upd W (20 + l) (if ((W (20 + l)) + (W 5)) < (Int32.ofNat 15) then ((W (20 + l)) + (W 5)) else (Int32.ofNat 15)))) (28 + l) ((((upd W (20 + l) (if ((W (20 + l)) + (W 5)) < (Int32.ofNat 15) then ((W (20 + l)) + (W 5)) else (Int32.ofNat 15)))) (28 + l)) + (Int32.ofNat 1)))) (376 + 103 * t + 3) (Int32.ofNat 0))) (376 + 103 * t + 4)) + (Int32.ofNat 1)))) t)) ((Int32.ofNat t)) ((Int32.ofNat 1)) ((Int32.ofNat l)))
  | n + 1, k, W => (bif zc1 .eq (q_holds ((q_of W t 17)) k) then (l_isKept t l n ((k + 1)) W) else (l_isKept t l n ((k + 1)) ((upd W (32 + k) (q_of W t ((23 + k)))))))
theorem w_isKept {σ : Nat → Nat × (Nat → Int32)} {yy : (Nat → Nat → Int64) × Bool × Nat × Nat} {m : Nat → Nat → Int32} {t : Nat} {l : Nat} {d : Nat} (hd : 3 ≤ d + 1) (ht : t < 4) (hl : l < 4) : ∀ (n : Nat) (k : Nat) (W : Nat → Int32), k + n = 32 → WC W → zEv σ (d + 1) 1830 2 [some (.ref 137), some (.int (Int32.ofNat t)), some (.int (Int32.ofNat l)), some (.int (Int32.ofNat k))] [] (zS1, zrow m 138 W, yy) (.inl none) (zS1, zrow m 138 ((l_isKept t l n k W)), yy) := by
  intro n
  induction n with
  | zero =>
    intro k W hk hC
    refine zeP rfl rfl ?_
    refine zeKn (c := 32) rfl rfl rfl ?_
    refine zeT2 rfl rfl (zcge (by omega) (by omega) (by omega)) ?_
    refine zeP rfl rfl ?_
    refine zeGR rfl rfl zS137 rfl rfl ?_
    refine zeKn (c := 20) rfl rfl rfl ?_
    refine zeP rfl rfl ?_
    refine zeAdd rfl ?_
    refine zeKn (c := 15) rfl rfl rfl ?_
    refine zeP rfl rfl ?_
    refine zeGR rfl rfl zS137 rfl rfl ?_
    refine zeKn (c := 20) rfl rfl rfl ?_
    refine zeP rfl rfl ?_
    refine zeAdd rfl ?_
    refine zeWL (k := (20 + l)) rfl (by omega) ?_
    refine zeP rfl rfl ?_
    refine zeGR rfl rfl zS137 rfl rfl ?_
    refine zeKn (c := 5) rfl rfl rfl ?_
    refine zeWL (k := 5) rfl (by omega) ?_
    refine zeP rfl rfl ?_
    refine zeM rfl rfl rfl rfl rfl rfl rfl ?_
    refine zeWS (k := (20 + l)) rfl (by omega) ?_
    refine zeP rfl rfl ?_
    refine zeGR rfl rfl zS137 rfl rfl ?_
    refine zeKn (c := 28) rfl rfl rfl ?_
    refine zeP rfl rfl ?_
    refine zeAdd rfl ?_
    refine zeP rfl rfl ?_
    refine zeWL (k := (28 + l)) rfl (by omega) ?_
    refine zeKn (c := 1) rfl rfl rfl ?_
    refine zeP rfl rfl ?_
    refine zeWS (k := (28 + l)) rfl (by omega) ?_
    refine zeP rfl rfl ?_
    refine zeGR rfl rfl zS137 rfl rfl ?_
    refine zeP rfl rfl ?_
    refine zeKn (c := 3) rfl rfl rfl ?_
    refine zeCF rfl rfl rfl rfl rfl rfl (c_at (m := m) (W := (upd ((upd W (20 + l) (if ((W (20 + l)) + (W 5)) < (Int32.ofNat 15) then ((W (20 + l)) + (W 5)) else (Int32.ofNat 15)))) (28 + l) ((((upd W (20 + l) (if ((W (20 + l)) + (W 5)) < (Int32.ofNat 15) then ((W (20 + l)) + (W 5)) else (Int32.ofNat 15)))) (28 + l)) + (Int32.ofNat 1)))) (t := t) (k := 3) ) (by omega) ?_
    dsimp only [Option.toList, List.cons_append, List.nil_append]
    refine zeKn (c := 0) rfl rfl rfl ?_
    refine zeWS (k := (376 + 103 * t + 3)) rfl (by omega) ?_
    refine zeP rfl rfl ?_
    refine zeGR rfl rfl zS137 rfl rfl ?_
    refine zeP rfl rfl ?_
    refine zeKn (c := 4) rfl rfl rfl ?_
    refine zeCF rfl rfl rfl rfl rfl rfl (c_at (m := m) (W := (upd ((upd ((upd W (20 + l) (if ((W (20 + l)) + (W 5)) < (Int32.ofNat 15) then ((W (20 + l)) + (W 5)) else (Int32.ofNat 15)))) (28 + l) ((((upd W (20 + l) (if ((W (20 + l)) + (W 5)) < (Int32.ofNat 15) then ((W (20 + l)) + (W 5)) else (Int32.ofNat 15)))) (28 + l)) + (Int32.ofNat 1)))) (376 + 103 * t + 3) (Int32.ofNat 0))) (t := t) (k := 4) ) (by omega) ?_
    dsimp only [Option.toList, List.cons_append, List.nil_append]
    refine zeP rfl rfl ?_
    refine zeWL (k := (376 + 103 * t + 4)) rfl (by omega) ?_
    refine zeKn (c := 1) rfl rfl rfl ?_
    refine zeP rfl rfl ?_
    refine zeWS (k := (376 + 103 * t + 4)) rfl (by omega) ?_
    refine zeP rfl rfl ?_
    refine zeP rfl rfl ?_
    refine zeCF rfl rfl rfl rfl rfl rfl (c_ends (m := m) (W := (upd ((upd ((upd ((upd W (20 + l) (if ((W (20 + l)) + (W 5)) < (Int32.ofNat 15) then ((W (20 + l)) + (W 5)) else (Int32.ofNat 15)))) (28 + l) ((((upd W (20 + l) (if ((W (20 + l)) + (W 5)) < (Int32.ofNat 15) then ((W (20 + l)) + (W 5)) else (Int32.ofNat 15)))) (28 + l)) + (Int32.ofNat 1)))) (376 + 103 * t + 3) (Int32.ofNat 0))) (376 + 103 * t + 4) ((((upd ((upd ((upd W (20 + l) (if ((W (20 + l)) + (W 5)) < (Int32.ofNat 15) then ((W (20 + l)) + (W 5)) else (Int32.ofNat 15)))) (28 + l) ((((upd W (20 + l) (if ((W (20 + l)) + (W 5)) < (Int32.ofNat 15) then ((W (20 + l)) + (W 5)) else (Int32.ofNat 15)))) (28 + l)) + (Int32.ofNat 1)))) (376 + 103 * t + 3) (Int32.ofNat 0))) (376 + 103 * t + 4)) + (Int32.ofNat 1)))) (t := t) (by first | assumption | omega)) (by omega) ?_
    dsimp only [Option.toList, List.cons_append, List.nil_append]
    refine zeP rfl rfl ?_
    refine zeP rfl rfl ?_
    refine zeKn (c := 1) rfl rfl rfl ?_
    refine zeP rfl rfl ?_
    refine zeCF rfl rfl rfl rfl rfl rfl (c_logs (m := m) (W := (q_ends ((upd ((upd ((upd ((upd W (20 + l) (if ((W (20 + l)) + (W 5)) < (Int32.ofNat 15) then ((W (20 + l)) + (W 5)) else (Int32.ofNat 15)))) (28 + l) ((((upd W (20 + l) (if ((W (20 + l)) + (W 5)) < (Int32.ofNat 15) then ((W (20 + l)) + (W 5)) else (Int32.ofNat 15)))) (28 + l)) + (Int32.ofNat 1)))) (376 + 103 * t + 3) (Int32.ofNat 0))) (376 + 103 * t + 4) ((((upd ((upd ((upd W (20 + l) (if ((W (20 + l)) + (W 5)) < (Int32.ofNat 15) then ((W (20 + l)) + (W 5)) else (Int32.ofNat 15)))) (28 + l) ((((upd W (20 + l) (if ((W (20 + l)) + (W 5)) < (Int32.ofNat 15) then ((W (20 + l)) + (W 5)) else (Int32.ofNat 15)))) (28 + l)) + (Int32.ofNat 1)))) (376 + 103 * t + 3) (Int32.ofNat 0))) (376 + 103 * t + 4)) + (Int32.ofNat 1)))) t)) (t := (Int32.ofNat t)) (w := (Int32.ofNat 1)) (v := (Int32.ofNat l)) (by simp (disch := omega) only [nv, q_ends,  upd_ne]; exact hC.1) (by simp (disch := omega) only [nv, q_ends,  upd_ne]; exact hC.2)) (by omega) ?_
    dsimp only [Option.toList, List.cons_append, List.nil_append]
    exact zeRe rfl rfl rfl rfl (by rfl) (by rfl)
  | succ n ih =>
    intro k W hk hC
    refine zeP rfl rfl ?_
    refine zeKn (c := 32) rfl rfl rfl ?_
    refine zeF2 rfl rfl (zcge_f (by omega) (by omega) (by omega)) ?_
    refine zeP rfl rfl ?_
    refine zeP rfl rfl ?_
    refine zeKn (c := 17) rfl rfl rfl ?_
    refine zeCF rfl rfl rfl rfl rfl rfl (c_of (m := m) (W := W) (t := t) (k := 17) (by first | assumption | omega)) (by omega) ?_
    dsimp only [Option.toList, List.cons_append, List.nil_append]
    refine zeP rfl rfl ?_
    refine zeCF rfl rfl rfl rfl rfl rfl (c_holds (m := m) (W := W) (s := (q_of W t 17)) (k := k) ) (by omega) ?_
    dsimp only [Option.toList, List.cons_append, List.nil_append]
    refine zeB1 rfl rfl (fun h1 => ?_) (fun h1 => ?_)
    · refine zeInc rfl rfl ?_
      refine zeP rfl rfl ?_
      simp only [l_isKept, h1, cond_true, cond_false]
      exact ih ((k + 1)) W  (by omega) (by first | exact hC | exact WC_of (upd_ne _ _ (by omega)) hC)
    · refine zeP rfl rfl ?_
      refine zeGR rfl rfl zS137 rfl rfl ?_
      refine zeKn (c := 32) rfl rfl rfl ?_
      refine zeP rfl rfl ?_
      refine zeAdd rfl ?_
      refine zeP rfl rfl ?_
      refine zeP rfl rfl ?_
      refine zeKn (c := 23) rfl rfl rfl ?_
      refine zeP rfl rfl ?_
      refine zeAdd rfl ?_
      refine zeCF rfl rfl rfl rfl rfl rfl (c_of (m := m) (W := W) (t := t) (k := (23 + k)) (by first | assumption | omega)) (by omega) ?_
      dsimp only [Option.toList, List.cons_append, List.nil_append]
      refine zeWS (k := (32 + k)) rfl (by omega) ?_
      refine zeInc rfl rfl ?_
      refine zeP rfl rfl ?_
      simp only [l_isKept, h1, cond_true, cond_false]
      exact ih ((k + 1)) ((upd W (32 + k) (q_of W t ((23 + k)))))  (by omega) (by first | exact hC | exact WC_of (upd_ne _ _ (by omega)) hC)
def q_isKept (W : Nat → Int32) (t : Nat) (l : Nat) : (Nat → Int32) := (l_isKept t l 32 0 W)
theorem p_isKept {σ : Nat → Nat × (Nat → Int32)} {yy : (Nat → Nat → Int64) × Bool × Nat × Nat} {m : Nat → Nat → Int32} {W : Nat → Int32} {t : Nat} {l : Nat} {d : Nat} (hd : 3 ≤ d + 1) (ht : t < 4) (hl : l < 4) (hC : WC W) : zEv σ (d + 1) 1830 0 [some (.ref 137), some (.int (Int32.ofNat t)), some (.int (Int32.ofNat l)), none] [] (zS1, zrow m 138 W, yy) (.inl none) (zS1, zrow m 138 ((q_isKept W t l)), yy) := by
  refine zeKn (c := 0) rfl rfl rfl ?_
  refine zeP rfl rfl ?_
  simp only [q_isKept, cond_true, cond_false]
  exact w_isKept (t := t) (l := l) (m := m) (by omega) ht hl 32 (0) W  (by omega) hC
theorem c_isKept {σ : Nat → Nat × (Nat → Int32)} {yy : (Nat → Nat → Int64) × Bool × Nat × Nat} {m : Nat → Nat → Int32} {W : Nat → Int32} {t : Nat} {l : Nat} (ht : t < 4) (hl : l < 4) (hC : WC W) : zF σ 3 1830 [.ref 137, .int (Int32.ofNat t), .int (Int32.ofNat l)] (zS1, zrow m 138 W, yy) (.inl none) (zS1, zrow m 138 ((q_isKept W t l)), yy) := by
  intro d hd
  obtain ⟨d, rfl⟩ : ∃ k, d = k + 1 := ⟨d - 1, by omega⟩
  exact p_isKept hd ht hl hC
def q_drops (m : Nat → Nat → Int32) (W : Nat → Int32) (t : Nat) (l : Nat) : Int32 × (Nat → Int32) × (Nat → Nat → Int32) := (bif zc2 .ne (q_placeLeft W t ((Int32.ofNat l))) (-1) then (bif zc2 .eq (q_placeLeft W t ((Int32.ofNat l))) ((q_of W t 10) - (Int32.ofNat 1)) then (bif zc1 .ne (q_placeLeft W t ((Int32.ofNat l))) then ((Int32.ofNat 1), (upd W (376 + 103 * t + 10) ((W (376 + 103 * t + 10)) - (Int32.ofNat 1))), m) else ((Int32.ofNat 1), (q_isKept W t l), m)) else ((Int32.ofNat 0), (q_itFalls m W t 2).1, (q_itFalls m W t 2).2)) else (bif zc2 .ne (q_of W t 2) (Int32.ofNat 1) then (bif zc1 .ne (q_writes m W t ((nv W (16 + l))) ((Int32.ofNat 0))).1 then ((Int32.ofNat 1), (q_logs ((q_writes m W t ((nv W (16 + l))) ((Int32.ofNat 0))).2.1) ((Int32.ofNat t)) ((Int32.ofNat 4)) ((Int32.ofNat l))), (q_writes m W t ((nv W (16 + l))) ((Int32.ofNat 0))).2.2) else ((Int32.ofNat 0), (q_writes m W t ((nv W (16 + l))) ((Int32.ofNat 0))).2.1, (q_writes m W t ((nv W (16 + l))) ((Int32.ofNat 0))).2.2)) else (bif zc1 .ne (q_writes m W t ((nv W (16 + l))) ((Int32.ofNat 0))).1 then ((Int32.ofNat 1), (q_writes m W t ((nv W (16 + l))) ((Int32.ofNat 0))).2.1, (q_writes m W t ((nv W (16 + l))) ((Int32.ofNat 0))).2.2) else ((Int32.ofNat 0), (q_writes m W t ((nv W (16 + l))) ((Int32.ofNat 0))).2.1, (q_writes m W t ((nv W (16 + l))) ((Int32.ofNat 0))).2.2))))
theorem p_drops {σ : Nat → Nat × (Nat → Int32)} {yy : (Nat → Nat → Int64) × Bool × Nat × Nat} {m : Nat → Nat → Int32} {W : Nat → Int32} {t : Nat} {l : Nat} {d : Nat} (hd : 7 ≤ d + 1) (hk : KG W t) (ht : t < 4) (hl : l < 4) : zEv σ (d + 1) 1831 0 [some (.ref 137), some (.int (Int32.ofNat t)), some (.int (Int32.ofNat l)), none, none] [] (zS1, zrow m 138 W, yy) (.inl (some (.int (q_drops m W t l).1))) (zS1, zrow ((q_drops m W t l).2.2) 138 ((q_drops m W t l).2.1), yy) := by
  refine zeP rfl rfl ?_
  refine zeP rfl rfl ?_
  refine zeP rfl rfl ?_
  refine zeCF rfl rfl rfl rfl rfl rfl (c_placeLeft (m := m) (W := W) (t := t) (l := (Int32.ofNat l)) ht (hk.1.2 t ht).2.1.1 (hk.1.2 t ht).2.1.2.2) (by omega) ?_
  dsimp only [Option.toList, List.cons_append, List.nil_append]
  refine zeP rfl rfl ?_
  refine zeP rfl rfl ?_
  refine zeK (v := -1) rfl rfl rfl ?_
  refine zeB2 rfl rfl (fun h1 => ?_) (fun h1 => ?_)
  · refine zeP rfl rfl ?_
    refine zeP rfl rfl ?_
    refine zeP rfl rfl ?_
    refine zeKn (c := 10) rfl rfl rfl ?_
    refine zeCF rfl rfl rfl rfl rfl rfl (c_of (m := m) (W := W) (t := t) (k := 10) (by first | assumption | omega)) (by omega) ?_
    dsimp only [Option.toList, List.cons_append, List.nil_append]
    refine zeKn (c := 1) rfl rfl rfl ?_
    refine zeP rfl rfl ?_
    refine zeB2 rfl rfl (fun h2 => ?_) (fun h2 => ?_)
    · refine zeP rfl rfl ?_
      refine zeB1 rfl rfl (fun h3 => ?_) (fun h3 => ?_)
      · refine zeP rfl rfl ?_
        refine zeGR rfl rfl zS137 rfl rfl ?_
        refine zeP rfl rfl ?_
        refine zeKn (c := 10) rfl rfl rfl ?_
        refine zeCF rfl rfl rfl rfl rfl rfl (c_at (m := m) (W := W) (t := t) (k := 10) ) (by omega) ?_
        dsimp only [Option.toList, List.cons_append, List.nil_append]
        refine zeP rfl rfl ?_
        refine zeWL (k := (376 + 103 * t + 10)) rfl (by omega) ?_
        refine zeKn (c := 1) rfl rfl rfl ?_
        refine zeP rfl rfl ?_
        refine zeWS (k := (376 + 103 * t + 10)) rfl (by omega) ?_
        refine zeKn (c := 1) rfl rfl rfl ?_
        exact zeRe rfl rfl rfl rfl (by simp only [q_drops, h1, h2, h3, cond_true, cond_false] <;> rfl) (by simp only [q_drops, h1, h2, h3, cond_true, cond_false] <;> rfl)
      · refine zeP rfl rfl ?_
        refine zeP rfl rfl ?_
        refine zeP rfl rfl ?_
        refine zeCF rfl rfl rfl rfl rfl rfl (c_isKept (m := m) (W := W) (t := t) (l := l) ht hl hk.1.C) (by omega) ?_
        dsimp only [Option.toList, List.cons_append, List.nil_append]
        refine zeP rfl rfl ?_
        refine zeKn (c := 1) rfl rfl rfl ?_
        exact zeRe rfl rfl rfl rfl (by simp only [q_drops, h1, h2, h3, cond_true, cond_false] <;> rfl) (by simp only [q_drops, h1, h2, h3, cond_true, cond_false] <;> rfl)
    · refine zeP rfl rfl ?_
      refine zeP rfl rfl ?_
      refine zeKn (c := 2) rfl rfl rfl ?_
      refine zeCF rfl rfl rfl rfl rfl rfl (c_itFalls (m := m) (W := W) (t := t) (y := 2) ht (by omega) (hk.1.L t ht).1 (hk.1.L t ht).2 hk.1.C.1 hk.1.C.2) (by omega) ?_
      dsimp only [Option.toList, List.cons_append, List.nil_append]
      refine zeKn (c := 0) rfl rfl rfl ?_
      exact zeRe rfl rfl rfl rfl (by simp only [q_drops, h1, h2, cond_true, cond_false] <;> rfl) (by simp only [q_drops, h1, h2, cond_true, cond_false] <;> rfl)
  · refine zeP rfl rfl ?_
    refine zeP rfl rfl ?_
    refine zeKn (c := 2) rfl rfl rfl ?_
    refine zeCF rfl rfl rfl rfl rfl rfl (c_of (m := m) (W := W) (t := t) (k := 2) (by first | assumption | omega)) (by omega) ?_
    dsimp only [Option.toList, List.cons_append, List.nil_append]
    refine zeKn (c := 1) rfl rfl rfl ?_
    refine zeB2 rfl rfl (fun h4 => ?_) (fun h4 => ?_)
    · refine zeKn (c := 0) rfl rfl rfl ?_
      refine zeP rfl rfl ?_
      refine zeP rfl rfl ?_
      refine zeP rfl rfl ?_
      refine zeP rfl rfl ?_
      refine zeGR rfl rfl zS137 rfl rfl ?_
      refine zeKn (c := 16) rfl rfl rfl ?_
      refine zeP rfl rfl ?_
      refine zeAdd rfl ?_
      refine zeWL (k := (16 + l)) rfl (by omega) ?_
      rw [(hk.1.lkw hl).1]
      refine zeKn (c := 0) rfl rfl rfl ?_
      refine zeCF rfl rfl rfl rfl rfl rfl (c_writes (m := m) (W := W) (t := t) (w := (nv W (16 + l))) (v := (Int32.ofNat 0)) hk.1 ht (hk.1.lk32 hl)) (by omega) ?_
      dsimp only [Option.toList, List.cons_append, List.nil_append]
      refine zeB1 rfl rfl (fun h5 => ?_) (fun h5 => ?_)
      · refine zeP rfl rfl ?_
        refine zeF1 rfl rfl (show zc1 .ne (Int32.ofNat 0) = false by decide) ?_
        refine zeP rfl rfl ?_
        refine zeP rfl rfl ?_
        refine zeKn (c := 4) rfl rfl rfl ?_
        refine zeP rfl rfl ?_
        refine zeCF rfl rfl rfl rfl rfl rfl (c_logs (m := (q_writes m W t ((nv W (16 + l))) ((Int32.ofNat 0))).2.2) (W := (q_writes m W t ((nv W (16 + l))) ((Int32.ofNat 0))).2.1) (t := (Int32.ofNat t)) (w := (Int32.ofNat 4)) (v := (Int32.ofNat l)) (hk.writes (m := m) ht (hk.1.lk32 hl) _).1.C.1 (hk.writes (m := m) ht (hk.1.lk32 hl) _).1.C.2) (by omega) ?_
        dsimp only [Option.toList, List.cons_append, List.nil_append]
        refine zeKn (c := 1) rfl rfl rfl ?_
        exact zeRe rfl rfl rfl rfl (by simp only [q_drops, h1, h4, h5, cond_true, cond_false] <;> rfl) (by simp only [q_drops, h1, h4, h5, cond_true, cond_false] <;> rfl)
      · refine zeKn (c := 0) rfl rfl rfl ?_
        exact zeRe rfl rfl rfl rfl (by simp only [q_drops, h1, h4, h5, cond_true, cond_false] <;> rfl) (by simp only [q_drops, h1, h4, h5, cond_true, cond_false] <;> rfl)
    · refine zeKn (c := 1) rfl rfl rfl ?_
      refine zeP rfl rfl ?_
      refine zeP rfl rfl ?_
      refine zeP rfl rfl ?_
      refine zeP rfl rfl ?_
      refine zeP rfl rfl ?_
      refine zeGR rfl rfl zS137 rfl rfl ?_
      refine zeKn (c := 16) rfl rfl rfl ?_
      refine zeP rfl rfl ?_
      refine zeAdd rfl ?_
      refine zeWL (k := (16 + l)) rfl (by omega) ?_
      rw [(hk.1.lkw hl).1]
      refine zeKn (c := 0) rfl rfl rfl ?_
      refine zeCF rfl rfl rfl rfl rfl rfl (c_writes (m := m) (W := W) (t := t) (w := (nv W (16 + l))) (v := (Int32.ofNat 0)) hk.1 ht (hk.1.lk32 hl)) (by omega) ?_
      dsimp only [Option.toList, List.cons_append, List.nil_append]
      refine zeB1 rfl rfl (fun h6 => ?_) (fun h6 => ?_)
      · refine zeP rfl rfl ?_
        refine zeT1 rfl rfl (show zc1 .ne (Int32.ofNat 1) = true by decide) ?_
        refine zeKn (c := 1) rfl rfl rfl ?_
        exact zeRe rfl rfl rfl rfl (by simp only [q_drops, h1, h4, h6, cond_true, cond_false] <;> rfl) (by simp only [q_drops, h1, h4, h6, cond_true, cond_false] <;> rfl)
      · refine zeKn (c := 0) rfl rfl rfl ?_
        exact zeRe rfl rfl rfl rfl (by simp only [q_drops, h1, h4, h6, cond_true, cond_false] <;> rfl) (by simp only [q_drops, h1, h4, h6, cond_true, cond_false] <;> rfl)
theorem c_drops {σ : Nat → Nat × (Nat → Int32)} {yy : (Nat → Nat → Int64) × Bool × Nat × Nat} {m : Nat → Nat → Int32} {W : Nat → Int32} {t : Nat} {l : Nat} (hk : KG W t) (ht : t < 4) (hl : l < 4) : zF σ 7 1831 [.ref 137, .int (Int32.ofNat t), .int (Int32.ofNat l)] (zS1, zrow m 138 W, yy) (.inl (some (.int (q_drops m W t l).1))) (zS1, zrow ((q_drops m W t l).2.2) 138 ((q_drops m W t l).2.1), yy) := by
  intro d hd
  obtain ⟨d, rfl⟩ : ∃ k, d = k + 1 := ⟨d - 1, by omega⟩
  exact p_drops hd hk ht hl
def q_putsOut (m : Nat → Nat → Int32) (W : Nat → Int32) (t : Nat) : Int32 × (Nat → Int32) × (Nat → Nat → Int32) := (bif zc2 .ne (q_of W t 2) (Int32.ofNat 1) then (bif zc2 .ge (Int32.ofNat (nv W 14)) (Int32.ofNat 20) then ((Int32.ofNat 1), (q_logs W ((Int32.ofNat t)) ((Int32.ofNat 5)) ((q_of W t 1))), m) else ((Int32.ofNat 1), (q_logs ((upd ((upd ((upd W (96 + (2 * (nv W 14))) (Int32.ofNat t))) ((96 + (2 * (nv W 14))) + 1) (q_of ((upd W (96 + (2 * (nv W 14))) (Int32.ofNat t))) t 1))) 14 ((((upd ((upd W (96 + (2 * (nv W 14))) (Int32.ofNat t))) ((96 + (2 * (nv W 14))) + 1) (q_of ((upd W (96 + (2 * (nv W 14))) (Int32.ofNat t))) t 1))) 14) + (Int32.ofNat 1)))) ((Int32.ofNat t)) ((Int32.ofNat 5)) ((q_of ((upd ((upd ((upd W (96 + (2 * (nv W 14))) (Int32.ofNat t))) ((96 + (2 * (nv W 14))) + 1) (q_of ((upd W (96 + (2 * (nv W 14))) (Int32.ofNat t))) t 1))) 14 ((((upd ((upd W (96 + (2 * (nv W 14))) (Int32.ofNat t))) ((96 + (2 * (nv W 14))) + 1) (q_of ((upd W (96 + (2 * (nv W 14))) (Int32.ofNat t))) t 1))) 14) + (Int32.ofNat 1)))) t 1))), m)) else ((Int32.ofNat 0), (q_itFalls m W t 3).1, (q_itFalls m W t 3).2))
theorem p_putsOut {σ : Nat → Nat × (Nat → Int32)} {yy : (Nat → Nat → Int64) × Bool × Nat × Nat} {m : Nat → Nat → Int32} {W : Nat → Int32} {t : Nat} {d : Nat} (hd : 5 ≤ d + 1) (hk : KG W t) (ht : t < 4) (hO : W 14 = Int32.ofNat (nv W 14)) (hO20 : nv W 14 ≤ 20) : zEv σ (d + 1) 1833 0 [some (.ref 137), some (.int (Int32.ofNat t))] [] (zS1, zrow m 138 W, yy) (.inl (some (.int (q_putsOut m W t).1))) (zS1, zrow ((q_putsOut m W t).2.2) 138 ((q_putsOut m W t).2.1), yy) := by
  refine zeP rfl rfl ?_
  refine zeP rfl rfl ?_
  refine zeKn (c := 2) rfl rfl rfl ?_
  refine zeCF rfl rfl rfl rfl rfl rfl (c_of (m := m) (W := W) (t := t) (k := 2) (by first | assumption | omega)) (by omega) ?_
  dsimp only [Option.toList, List.cons_append, List.nil_append]
  refine zeKn (c := 1) rfl rfl rfl ?_
  refine zeB2 rfl rfl (fun h1 => ?_) (fun h1 => ?_)
  · refine zeP rfl rfl ?_
    refine zeGR rfl rfl zS137 rfl rfl ?_
    refine zeKn (c := 14) rfl rfl rfl ?_
    refine zeWL (k := 14) rfl (by omega) ?_
    rw [hO]
    refine zeKn (c := 20) rfl rfl rfl ?_
    refine zeB2 rfl rfl (fun h2 => ?_) (fun h2 => ?_)
    · refine zeP rfl rfl ?_
      refine zeP rfl rfl ?_
      refine zeKn (c := 5) rfl rfl rfl ?_
      refine zeP rfl rfl ?_
      refine zeP rfl rfl ?_
      refine zeKn (c := 1) rfl rfl rfl ?_
      refine zeCF rfl rfl rfl rfl rfl rfl (c_of (m := m) (W := W) (t := t) (k := 1) (by first | assumption | omega)) (by omega) ?_
      dsimp only [Option.toList, List.cons_append, List.nil_append]
      refine zeCF rfl rfl rfl rfl rfl rfl (c_logs (m := m) (W := W) (t := (Int32.ofNat t)) (w := (Int32.ofNat 5)) (v := (q_of W t 1)) (by first | exact hk.1.C.1 | (simp (disch := omega) only [nv, upd_ne]; exact hk.1.C.1)) (by first | exact hk.1.C.2 | (simp (disch := omega) only [nv, upd_ne]; exact hk.1.C.2))) (by omega) ?_
      dsimp only [Option.toList, List.cons_append, List.nil_append]
      refine zeKn (c := 1) rfl rfl rfl ?_
      exact zeRe rfl rfl rfl rfl (by simp only [q_putsOut, h1, h2, cond_true, cond_false] <;> rfl) (by simp only [q_putsOut, h1, h2, cond_true, cond_false] <;> rfl)
    · refine zeP rfl rfl ?_
      refine zeGR rfl rfl zS137 rfl rfl ?_
      refine zeKn (c := 96) rfl rfl rfl ?_
      refine zeKn (c := 2) rfl rfl rfl ?_
      refine zeP rfl rfl ?_
      refine zeGR rfl rfl zS137 rfl rfl ?_
      refine zeKn (c := 14) rfl rfl rfl ?_
      refine zeWL (k := 14) rfl (by omega) ?_
      rw [hO]
      refine zeMul rfl ?_
      refine zeAdd rfl ?_
      refine zeP rfl rfl ?_
      refine zeWS (k := (96 + (2 * (nv W 14)))) rfl (by omega) ?_
      refine zeP rfl rfl ?_
      refine zeGR rfl rfl zS137 rfl rfl ?_
      refine zeKn (c := 96) rfl rfl rfl ?_
      refine zeKn (c := 2) rfl rfl rfl ?_
      refine zeP rfl rfl ?_
      refine zeGR rfl rfl zS137 rfl rfl ?_
      refine zeKn (c := 14) rfl rfl rfl ?_
      refine zeWL (k := 14) rfl (by omega) ?_
      rw [(show (upd W (96 + (2 * (nv W 14))) (Int32.ofNat t)) 14 = Int32.ofNat (nv W 14) from by rw [upd_ne _ _ (by omega)]; exact hO)]
      refine zeMul rfl ?_
      refine zeAdd rfl ?_
      refine zeKn (c := 1) rfl rfl rfl ?_
      refine zeAdd rfl ?_
      refine zeP rfl rfl ?_
      refine zeP rfl rfl ?_
      refine zeKn (c := 1) rfl rfl rfl ?_
      refine zeCF rfl rfl rfl rfl rfl rfl (c_of (m := m) (W := (upd W (96 + (2 * (nv W 14))) (Int32.ofNat t))) (t := t) (k := 1) (by first | assumption | omega)) (by omega) ?_
      dsimp only [Option.toList, List.cons_append, List.nil_append]
      refine zeWS (k := ((96 + (2 * (nv W 14))) + 1)) rfl (by omega) ?_
      refine zeP rfl rfl ?_
      refine zeGR rfl rfl zS137 rfl rfl ?_
      refine zeKn (c := 14) rfl rfl rfl ?_
      refine zeP rfl rfl ?_
      refine zeWL (k := 14) rfl (by omega) ?_
      refine zeKn (c := 1) rfl rfl rfl ?_
      refine zeP rfl rfl ?_
      refine zeWS (k := 14) rfl (by omega) ?_
      refine zeP rfl rfl ?_
      refine zeP rfl rfl ?_
      refine zeKn (c := 5) rfl rfl rfl ?_
      refine zeP rfl rfl ?_
      refine zeP rfl rfl ?_
      refine zeKn (c := 1) rfl rfl rfl ?_
      refine zeCF rfl rfl rfl rfl rfl rfl (c_of (m := m) (W := (upd ((upd ((upd W (96 + (2 * (nv W 14))) (Int32.ofNat t))) ((96 + (2 * (nv W 14))) + 1) (q_of ((upd W (96 + (2 * (nv W 14))) (Int32.ofNat t))) t 1))) 14 ((((upd ((upd W (96 + (2 * (nv W 14))) (Int32.ofNat t))) ((96 + (2 * (nv W 14))) + 1) (q_of ((upd W (96 + (2 * (nv W 14))) (Int32.ofNat t))) t 1))) 14) + (Int32.ofNat 1)))) (t := t) (k := 1) (by first | assumption | omega)) (by omega) ?_
      dsimp only [Option.toList, List.cons_append, List.nil_append]
      refine zeCF rfl rfl rfl rfl rfl rfl (c_logs (m := m) (W := (upd ((upd ((upd W (96 + (2 * (nv W 14))) (Int32.ofNat t))) ((96 + (2 * (nv W 14))) + 1) (q_of ((upd W (96 + (2 * (nv W 14))) (Int32.ofNat t))) t 1))) 14 ((((upd ((upd W (96 + (2 * (nv W 14))) (Int32.ofNat t))) ((96 + (2 * (nv W 14))) + 1) (q_of ((upd W (96 + (2 * (nv W 14))) (Int32.ofNat t))) t 1))) 14) + (Int32.ofNat 1)))) (t := (Int32.ofNat t)) (w := (Int32.ofNat 5)) (v := (q_of ((upd ((upd ((upd W (96 + (2 * (nv W 14))) (Int32.ofNat t))) ((96 + (2 * (nv W 14))) + 1) (q_of ((upd W (96 + (2 * (nv W 14))) (Int32.ofNat t))) t 1))) 14 ((((upd ((upd W (96 + (2 * (nv W 14))) (Int32.ofNat t))) ((96 + (2 * (nv W 14))) + 1) (q_of ((upd W (96 + (2 * (nv W 14))) (Int32.ofNat t))) t 1))) 14) + (Int32.ofNat 1)))) t 1)) (by first | exact hk.1.C.1 | (simp (disch := omega) only [nv, upd_ne]; exact hk.1.C.1)) (by first | exact hk.1.C.2 | (simp (disch := omega) only [nv, upd_ne]; exact hk.1.C.2))) (by omega) ?_
      dsimp only [Option.toList, List.cons_append, List.nil_append]
      refine zeKn (c := 1) rfl rfl rfl ?_
      exact zeRe rfl rfl rfl rfl (by simp only [q_putsOut, h1, h2, cond_true, cond_false] <;> rfl) (by simp only [q_putsOut, h1, h2, cond_true, cond_false] <;> rfl)
  · refine zeP rfl rfl ?_
    refine zeP rfl rfl ?_
    refine zeKn (c := 3) rfl rfl rfl ?_
    refine zeCF rfl rfl rfl rfl rfl rfl (c_itFalls (m := m) (W := W) (t := t) (y := 3) ht (by omega) (hk.1.L t ht).1 (hk.1.L t ht).2 hk.1.C.1 hk.1.C.2) (by omega) ?_
    dsimp only [Option.toList, List.cons_append, List.nil_append]
    refine zeKn (c := 0) rfl rfl rfl ?_
    exact zeRe rfl rfl rfl rfl (by simp only [q_putsOut, h1, cond_true, cond_false] <;> rfl) (by simp only [q_putsOut, h1, cond_true, cond_false] <;> rfl)
theorem c_putsOut {σ : Nat → Nat × (Nat → Int32)} {yy : (Nat → Nat → Int64) × Bool × Nat × Nat} {m : Nat → Nat → Int32} {W : Nat → Int32} {t : Nat} (hk : KG W t) (ht : t < 4) (hO : W 14 = Int32.ofNat (nv W 14)) (hO20 : nv W 14 ≤ 20) : zF σ 5 1833 [.ref 137, .int (Int32.ofNat t)] (zS1, zrow m 138 W, yy) (.inl (some (.int (q_putsOut m W t).1))) (zS1, zrow ((q_putsOut m W t).2.2) 138 ((q_putsOut m W t).2.1), yy) := by
  intro d hd
  obtain ⟨d, rfl⟩ : ∃ k, d = k + 1 := ⟨d - 1, by omega⟩
  exact p_putsOut hd hk ht hO hO20
