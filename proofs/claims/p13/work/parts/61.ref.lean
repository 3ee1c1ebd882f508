noncomputable def q_does0 (m : Nat → Nat → Int32) (W : Nat → Int32) (t : Nat) (n : Nat) : Int32 × (Nat → Int32) × (Nat → Nat → Int32) := ((q_takes m W t n).1, (q_takes m W t n).2.1, (q_takes m W t n).2.2)
theorem p_does0 {σ : Nat → Nat × (Nat → Int32)} {yy : (Nat → Nat → Int64) × Bool × Nat × Nat} {m : Nat → Nat → Int32} {W : Nat → Int32} {t : Nat} {n : Nat} {d : Nat} (hd : 8 ≤ d + 1) (hk : KG W t) (ht : t < 4) (hn : n < 4) : zEv σ (d + 1) 1834 0 [some (.ref 137), some (.int (Int32.ofNat t)), some (.int (Int32.ofNat 0)), some (.int (Int32.ofNat n))] [] (zS1, zrow m 138 W, yy) (.inl (some (.int (q_does0 m W t n).1))) (zS1, zrow ((q_does0 m W t n).2.2) 138 ((q_does0 m W t n).2.1), yy) := by
  refine zeP rfl rfl ?_
  refine zeP rfl rfl ?_
  refine zeP rfl rfl ?_
  refine zeP rfl rfl ?_
  refine zeP rfl rfl ?_
  refine zeCF rfl rfl rfl rfl rfl rfl (c_takes (m := m) (W := W) (t := t) (l := n) hk ht hn) (by omega) ?_
  dsimp only [Option.toList, List.cons_append, List.nil_append]
  exact zeRe rfl rfl rfl (zretB rfl rfl (takes_ok hk ht hn).2) (by rfl) (by rfl)
theorem c_does0 {σ : Nat → Nat × (Nat → Int32)} {yy : (Nat → Nat → Int64) × Bool × Nat × Nat} {m : Nat → Nat → Int32} {W : Nat → Int32} {t : Nat} {n : Nat} (hk : KG W t) (ht : t < 4) (hn : n < 4) : zF σ 8 1834 [.ref 137, .int (Int32.ofNat t), .int (Int32.ofNat 0), .int (Int32.ofNat n)] (zS1, zrow m 138 W, yy) (.inl (some (.int (q_does0 m W t n).1))) (zS1, zrow ((q_does0 m W t n).2.2) 138 ((q_does0 m W t n).2.1), yy) := by
  intro d hd
  obtain ⟨d, rfl⟩ : ∃ k, d = k + 1 := ⟨d - 1, by omega⟩
  exact p_does0 hd hk ht hn
noncomputable def q_does1 (m : Nat → Nat → Int32) (W : Nat → Int32) (t : Nat) (n : Nat) : Int32 × (Nat → Int32) × (Nat → Nat → Int32) := ((q_drops m W t n).1, (q_drops m W t n).2.1, (q_drops m W t n).2.2)
theorem p_does1 {σ : Nat → Nat × (Nat → Int32)} {yy : (Nat → Nat → Int64) × Bool × Nat × Nat} {m : Nat → Nat → Int32} {W : Nat → Int32} {t : Nat} {n : Nat} {d : Nat} (hd : 8 ≤ d + 1) (hk : KG W t) (ht : t < 4) (hn : n < 4) : zEv σ (d + 1) 1834 0 [some (.ref 137), some (.int (Int32.ofNat t)), some (.int (Int32.ofNat 1)), some (.int (Int32.ofNat n))] [] (zS1, zrow m 138 W, yy) (.inl (some (.int (q_does1 m W t n).1))) (zS1, zrow ((q_does1 m W t n).2.2) 138 ((q_does1 m W t n).2.1), yy) := by
  refine zeP rfl rfl ?_
  refine zeP rfl rfl ?_
  refine zeP rfl rfl ?_
  refine zeP rfl rfl ?_
  refine zeP rfl rfl ?_
  refine zeCF rfl rfl rfl rfl rfl rfl (c_drops (m := m) (W := W) (t := t) (l := n) hk ht hn) (by omega) ?_
  dsimp only [Option.toList, List.cons_append, List.nil_append]
  exact zeRe rfl rfl rfl (zretB rfl rfl (drops_ok hk ht hn).2) (by rfl) (by rfl)
theorem c_does1 {σ : Nat → Nat × (Nat → Int32)} {yy : (Nat → Nat → Int64) × Bool × Nat × Nat} {m : Nat → Nat → Int32} {W : Nat → Int32} {t : Nat} {n : Nat} (hk : KG W t) (ht : t < 4) (hn : n < 4) : zF σ 8 1834 [.ref 137, .int (Int32.ofNat t), .int (Int32.ofNat 1), .int (Int32.ofNat n)] (zS1, zrow m 138 W, yy) (.inl (some (.int (q_does1 m W t n).1))) (zS1, zrow ((q_does1 m W t n).2.2) 138 ((q_does1 m W t n).2.1), yy) := by
  intro d hd
  obtain ⟨d, rfl⟩ : ∃ k, d = k + 1 := ⟨d - 1, by omega⟩
  exact p_does1 hd hk ht hn
noncomputable def q_does2 (m : Nat → Nat → Int32) (W : Nat → Int32) (t : Nat) (n : Nat) : Int32 × (Nat → Int32) × (Nat → Nat → Int32) := (bif zc1 .ne (q_reads m W t ((Int32.ofNat n))).1 then ((Int32.ofNat 1), (upd ((q_reads m W t ((Int32.ofNat n))).2.1) (376 + 103 * t + 1) (q_seen ((q_reads m W t ((Int32.ofNat n))).2.1) t n)), (q_reads m W t ((Int32.ofNat n))).2.2) else ((Int32.ofNat 0), (q_reads m W t ((Int32.ofNat n))).2.1, (q_reads m W t ((Int32.ofNat n))).2.2))
theorem p_does2 {σ : Nat → Nat × (Nat → Int32)} {yy : (Nat → Nat → Int64) × Bool × Nat × Nat} {m : Nat → Nat → Int32} {W : Nat → Int32} {t : Nat} {n : Nat} {d : Nat} (hd : 7 ≤ d + 1) (hk : KG W t) (ht : t < 4) (hn : n < 32) : zEv σ (d + 1) 1834 0 [some (.ref 137), some (.int (Int32.ofNat t)), some (.int (Int32.ofNat 2)), some (.int (Int32.ofNat n))] [] (zS1, zrow m 138 W, yy) (.inl (some (.int (q_does2 m W t n).1))) (zS1, zrow ((q_does2 m W t n).2.2) 138 ((q_does2 m W t n).2.1), yy) := by
  refine zeP rfl rfl ?_
  refine zeP rfl rfl ?_
  refine zeP rfl rfl ?_
  refine zeP rfl rfl ?_
  refine zeP rfl rfl ?_
  refine zeCF rfl rfl rfl rfl rfl rfl (c_reads (m := m) (W := W) (t := t) (w := (Int32.ofNat n)) hk.1 ht) (by omega) ?_
  dsimp only [Option.toList, List.cons_append, List.nil_append]
  refine zeB1 rfl rfl (fun h1 => ?_) (fun h1 => ?_)
  · refine zeP rfl rfl ?_
    refine zeGR rfl rfl zS137 rfl rfl ?_
    refine zeP rfl rfl ?_
    refine zeKn (c := 1) rfl rfl rfl ?_
    refine zeCF rfl rfl rfl rfl rfl rfl (c_at (m := (q_reads m W t ((Int32.ofNat n))).2.2) (W := (q_reads m W t ((Int32.ofNat n))).2.1) (t := t) (k := 1) ) (by omega) ?_
    dsimp only [Option.toList, List.cons_append, List.nil_append]
    refine zeP rfl rfl ?_
    refine zeP rfl rfl ?_
    refine zeP rfl rfl ?_
    refine zeCF rfl rfl rfl rfl rfl rfl (c_seen (m := (q_reads m W t ((Int32.ofNat n))).2.2) (W := (q_reads m W t ((Int32.ofNat n))).2.1) (t := t) (w := n) ht hn) (by omega) ?_
    dsimp only [Option.toList, List.cons_append, List.nil_append]
    refine zeWS (k := (376 + 103 * t + 1)) rfl (by omega) ?_
    refine zeKn (c := 1) rfl rfl rfl ?_
    exact zeRe rfl rfl rfl rfl (by simp only [q_does2, h1, cond_true, cond_false] <;> rfl) (by simp only [q_does2, h1, cond_true, cond_false] <;> rfl)
  · refine zeKn (c := 0) rfl rfl rfl ?_
    exact zeRe rfl rfl rfl rfl (by simp only [q_does2, h1, cond_true, cond_false] <;> rfl) (by simp only [q_does2, h1, cond_true, cond_false] <;> rfl)
theorem c_does2 {σ : Nat → Nat × (Nat → Int32)} {yy : (Nat → Nat → Int64) × Bool × Nat × Nat} {m : Nat → Nat → Int32} {W : Nat → Int32} {t : Nat} {n : Nat} (hk : KG W t) (ht : t < 4) (hn : n < 32) : zF σ 7 1834 [.ref 137, .int (Int32.ofNat t), .int (Int32.ofNat 2), .int (Int32.ofNat n)] (zS1, zrow m 138 W, yy) (.inl (some (.int (q_does2 m W t n).1))) (zS1, zrow ((q_does2 m W t n).2.2) 138 ((q_does2 m W t n).2.1), yy) := by
  intro d hd
  obtain ⟨d, rfl⟩ : ∃ k, d = k + 1 := ⟨d - 1, by omega⟩
  exact p_does2 hd hk ht hn
noncomputable def q_does3 (m : Nat → Nat → Int32) (W : Nat → Int32) (t : Nat) (n : Nat) : Int32 × (Nat → Int32) × (Nat → Nat → Int32) := ((q_writes m W t n ((q_of W t 1))).1, (q_writes m W t n ((q_of W t 1))).2.1, (q_writes m W t n ((q_of W t 1))).2.2)
theorem p_does3 {σ : Nat → Nat × (Nat → Int32)} {yy : (Nat → Nat → Int64) × Bool × Nat × Nat} {m : Nat → Nat → Int32} {W : Nat → Int32} {t : Nat} {n : Nat} {d : Nat} (hd : 7 ≤ d + 1) (hk : KG W t) (ht : t < 4) (hn : n < 32) : zEv σ (d + 1) 1834 0 [some (.ref 137), some (.int (Int32.ofNat t)), some (.int (Int32.ofNat 3)), some (.int (Int32.ofNat n))] [] (zS1, zrow m 138 W, yy) (.inl (some (.int (q_does3 m W t n).1))) (zS1, zrow ((q_does3 m W t n).2.2) 138 ((q_does3 m W t n).2.1), yy) := by
  refine zeP rfl rfl ?_
  refine zeP rfl rfl ?_
  refine zeP rfl rfl ?_
  refine zeP rfl rfl ?_
  refine zeP rfl rfl ?_
  refine zeP rfl rfl ?_
  refine zeP rfl rfl ?_
  refine zeKn (c := 1) rfl rfl rfl ?_
  refine zeCF rfl rfl rfl rfl rfl rfl (c_of (m := m) (W := W) (t := t) (k := 1) (by first | assumption | omega)) (by omega) ?_
  dsimp only [Option.toList, List.cons_append, List.nil_append]
  refine zeCF rfl rfl rfl rfl rfl rfl (c_writes (m := m) (W := W) (t := t) (w := n) (v := (q_of W t 1)) hk.1 ht hn) (by omega) ?_
  dsimp only [Option.toList, List.cons_append, List.nil_append]
  exact zeRe rfl rfl rfl (zretB rfl rfl writes_01) (by rfl) (by rfl)
theorem c_does3 {σ : Nat → Nat × (Nat → Int32)} {yy : (Nat → Nat → Int64) × Bool × Nat × Nat} {m : Nat → Nat → Int32} {W : Nat → Int32} {t : Nat} {n : Nat} (hk : KG W t) (ht : t < 4) (hn : n < 32) : zF σ 7 1834 [.ref 137, .int (Int32.ofNat t), .int (Int32.ofNat 3), .int (Int32.ofNat n)] (zS1, zrow m 138 W, yy) (.inl (some (.int (q_does3 m W t n).1))) (zS1, zrow ((q_does3 m W t n).2.2) 138 ((q_does3 m W t n).2.1), yy) := by
  intro d hd
  obtain ⟨d, rfl⟩ : ∃ k, d = k + 1 := ⟨d - 1, by omega⟩
  exact p_does3 hd hk ht hn
noncomputable def q_does4 (W : Nat → Int32) (t : Nat) (n : Nat) : Int32 × (Nat → Int32) := ((Int32.ofNat 1), (upd W (376 + 103 * t + 1) (Int32.ofNat n)))
theorem p_does4 {σ : Nat → Nat × (Nat → Int32)} {yy : (Nat → Nat → Int64) × Bool × Nat × Nat} {m : Nat → Nat → Int32} {W : Nat → Int32} {t : Nat} {n : Nat} {d : Nat} (hd : 2 ≤ d + 1) (hk : KG W t) (ht : t < 4) : zEv σ (d + 1) 1834 0 [some (.ref 137), some (.int (Int32.ofNat t)), some (.int (Int32.ofNat 4)), some (.int (Int32.ofNat n))] [] (zS1, zrow m 138 W, yy) (.inl (some (.int (q_does4 W t n).1))) (zS1, zrow m 138 ((q_does4 W t n).2), yy) := by
  refine zeP rfl rfl ?_
  refine zeP rfl rfl ?_
  refine zeP rfl rfl ?_
  refine zeGR rfl rfl zS137 rfl rfl ?_
  refine zeP rfl rfl ?_
  refine zeKn (c := 1) rfl rfl rfl ?_
  refine zeCF rfl rfl rfl rfl rfl rfl (c_at (m := m) (W := W) (t := t) (k := 1) ) (by omega) ?_
  dsimp only [Option.toList, List.cons_append, List.nil_append]
  refine zeP rfl rfl ?_
  refine zeWS (k := (376 + 103 * t + 1)) rfl (by omega) ?_
  refine zeKn (c := 1) rfl rfl rfl ?_
  exact zeRe rfl rfl rfl rfl (by rfl) (by rfl)
theorem c_does4 {σ : Nat → Nat × (Nat → Int32)} {yy : (Nat → Nat → Int64) × Bool × Nat × Nat} {m : Nat → Nat → Int32} {W : Nat → Int32} {t : Nat} {n : Nat} (hk : KG W t) (ht : t < 4) : zF σ 2 1834 [.ref 137, .int (Int32.ofNat t), .int (Int32.ofNat 4), .int (Int32.ofNat n)] (zS1, zrow m 138 W, yy) (.inl (some (.int (q_does4 W t n).1))) (zS1, zrow m 138 ((q_does4 W t n).2), yy) := by
  intro d hd
  obtain ⟨d, rfl⟩ : ∃ k, d = k + 1 := ⟨d - 1, by omega⟩
  exact p_does4 hd hk ht
noncomputable def q_does5 (W : Nat → Int32) (t : Nat) (n : Nat) : Int32 × (Nat → Int32) := ((Int32.ofNat 1), (upd W (376 + 103 * t + 1) (((q_of W t 1) + (Int32.ofNat n)) - ((q_of W t 1) + (Int32.ofNat n)) / (Int32.ofNat 10000) * (Int32.ofNat 10000))))
theorem p_does5 {σ : Nat → Nat × (Nat → Int32)} {yy : (Nat → Nat → Int64) × Bool × Nat × Nat} {m : Nat → Nat → Int32} {W : Nat → Int32} {t : Nat} {n : Nat} {d : Nat} (hd : 3 ≤ d + 1) (hk : KG W t) (ht : t < 4) : zEv σ (d + 1) 1834 0 [some (.ref 137), some (.int (Int32.ofNat t)), some (.int (Int32.ofNat 5)), some (.int (Int32.ofNat n))] [] (zS1, zrow m 138 W, yy) (.inl (some (.int (q_does5 W t n).1))) (zS1, zrow m 138 ((q_does5 W t n).2), yy) := by
  refine zeP rfl rfl ?_
  refine zeP rfl rfl ?_
  refine zeP rfl rfl ?_
  refine zeGR rfl rfl zS137 rfl rfl ?_
  refine zeP rfl rfl ?_
  refine zeKn (c := 1) rfl rfl rfl ?_
  refine zeCF rfl rfl rfl rfl rfl rfl (c_at (m := m) (W := W) (t := t) (k := 1) ) (by omega) ?_
  dsimp only [Option.toList, List.cons_append, List.nil_append]
  refine zeP rfl rfl ?_
  refine zeP rfl rfl ?_
  refine zeKn (c := 1) rfl rfl rfl ?_
  refine zeCF rfl rfl rfl rfl rfl rfl (c_of (m := m) (W := W) (t := t) (k := 1) (by first | assumption | omega)) (by omega) ?_
  dsimp only [Option.toList, List.cons_append, List.nil_append]
  refine zeP rfl rfl ?_
  refine zeP rfl rfl ?_
  refine zeKn (c := 10000) rfl rfl rfl ?_
  refine zeRem rfl (by decide) ?_
  refine zeWS (k := (376 + 103 * t + 1)) rfl (by omega) ?_
  refine zeKn (c := 1) rfl rfl rfl ?_
  exact zeRe rfl rfl rfl rfl (by rfl) (by rfl)
theorem c_does5 {σ : Nat → Nat × (Nat → Int32)} {yy : (Nat → Nat → Int64) × Bool × Nat × Nat} {m : Nat → Nat → Int32} {W : Nat → Int32} {t : Nat} {n : Nat} (hk : KG W t) (ht : t < 4) : zF σ 3 1834 [.ref 137, .int (Int32.ofNat t), .int (Int32.ofNat 5), .int (Int32.ofNat n)] (zS1, zrow m 138 W, yy) (.inl (some (.int (q_does5 W t n).1))) (zS1, zrow m 138 ((q_does5 W t n).2), yy) := by
  intro d hd
  obtain ⟨d, rfl⟩ : ∃ k, d = k + 1 := ⟨d - 1, by omega⟩
  exact p_does5 hd hk ht
noncomputable def q_does6 (W : Nat → Int32) (t : Nat) (n : Nat) : Int32 × (Nat → Int32) := ((q_works W t ((Int32.ofNat n))).1, (q_works W t ((Int32.ofNat n))).2)
theorem p_does6 {σ : Nat → Nat × (Nat → Int32)} {yy : (Nat → Nat → Int64) × Bool × Nat × Nat} {m : Nat → Nat → Int32} {W : Nat → Int32} {t : Nat} {n : Nat} {d : Nat} (hd : 4 ≤ d + 1) (hk : KG W t) (ht : t < 4) : zEv σ (d + 1) 1834 0 [some (.ref 137), some (.int (Int32.ofNat t)), some (.int (Int32.ofNat 6)), some (.int (Int32.ofNat n))] [] (zS1, zrow m 138 W, yy) (.inl (some (.int (q_does6 W t n).1))) (zS1, zrow m 138 ((q_does6 W t n).2), yy) := by
  refine zeP rfl rfl ?_
  refine zeP rfl rfl ?_
  refine zeP rfl rfl ?_
  refine zeP rfl rfl ?_
  refine zeP rfl rfl ?_
  refine zeCF rfl rfl rfl rfl rfl rfl (c_works (m := m) (W := W) (t := t) (n := (Int32.ofNat n)) ht) (by omega) ?_
  dsimp only [Option.toList, List.cons_append, List.nil_append]
  exact zeRe rfl rfl rfl (zretB rfl rfl (works_ok hk ht).2) (by rfl) (by rfl)
theorem c_does6 {σ : Nat → Nat × (Nat → Int32)} {yy : (Nat → Nat → Int64) × Bool × Nat × Nat} {m : Nat → Nat → Int32} {W : Nat → Int32} {t : Nat} {n : Nat} (hk : KG W t) (ht : t < 4) : zF σ 4 1834 [.ref 137, .int (Int32.ofNat t), .int (Int32.ofNat 6), .int (Int32.ofNat n)] (zS1, zrow m 138 W, yy) (.inl (some (.int (q_does6 W t n).1))) (zS1, zrow m 138 ((q_does6 W t n).2), yy) := by
  intro d hd
  obtain ⟨d, rfl⟩ : ∃ k, d = k + 1 := ⟨d - 1, by omega⟩
  exact p_does6 hd hk ht
noncomputable def q_does7 (m : Nat → Nat → Int32) (W : Nat → Int32) (t : Nat) (n : Nat) : Int32 × (Nat → Int32) × (Nat → Nat → Int32) := ((q_putsOut m W t).1, (q_putsOut m W t).2.1, (q_putsOut m W t).2.2)
theorem p_does7 {σ : Nat → Nat × (Nat → Int32)} {yy : (Nat → Nat → Int64) × Bool × Nat × Nat} {m : Nat → Nat → Int32} {W : Nat → Int32} {t : Nat} {n : Nat} {d : Nat} (hd : 6 ≤ d + 1) (hk : KG W t) (ht : t < 4) : zEv σ (d + 1) 1834 0 [some (.ref 137), some (.int (Int32.ofNat t)), some (.int (Int32.ofNat 7)), some (.int (Int32.ofNat n))] [] (zS1, zrow m 138 W, yy) (.inl (some (.int (q_does7 m W t n).1))) (zS1, zrow ((q_does7 m W t n).2.2) 138 ((q_does7 m W t n).2.1), yy) := by
  refine zeP rfl rfl ?_
  refine zeP rfl rfl ?_
  refine zeP rfl rfl ?_
  refine zeP rfl rfl ?_
  refine zeCF rfl rfl rfl rfl rfl rfl (c_putsOut (m := m) (W := W) (t := t) hk ht hk.1.1.2.2.2.2.1.1 hk.1.1.2.2.2.2.1.2.2) (by omega) ?_
  dsimp only [Option.toList, List.cons_append, List.nil_append]
  exact zeRe rfl rfl rfl (zretB rfl rfl (putsOut_ok hk ht).2) (by rfl) (by rfl)
theorem c_does7 {σ : Nat → Nat × (Nat → Int32)} {yy : (Nat → Nat → Int64) × Bool × Nat × Nat} {m : Nat → Nat → Int32} {W : Nat → Int32} {t : Nat} {n : Nat} (hk : KG W t) (ht : t < 4) : zF σ 6 1834 [.ref 137, .int (Int32.ofNat t), .int (Int32.ofNat 7), .int (Int32.ofNat n)] (zS1, zrow m 138 W, yy) (.inl (some (.int (q_does7 m W t n).1))) (zS1, zrow ((q_does7 m W t n).2.2) 138 ((q_does7 m W t n).2.1), yy) := by
  intro d hd
  obtain ⟨d, rfl⟩ : ∃ k, d = k + 1 := ⟨d - 1, by omega⟩
  exact p_does7 hd hk ht
