/-! 61.ref 62.ref 63.pure 64.ref 65.pure 66.ref 67.ref 68.ref -/
section
noncomputable def q_does0 (m : Nat → Nat → Int32) (W : Nat → Int32) (t : Nat) (n : Nat) : Int32 × (Nat → Int32) × (Nat → Nat → Int32) := ((q_takes m W t n).1, (q_takes m W t n).2.1, (q_takes m W t n).2.2)
theorem p_does0 {σ : Nat → Nat × (Nat → Int32)} {yy : (Nat → Nat → Int64) × Bool × Nat × Nat} {m : Nat → Nat → Int32} {W : Nat → Int32} {t : Nat} {n : Nat} {d : Nat} (hd : 8 ≤ d + 1) (hk : KG W t) (ht : t < 4) (hn : n < 4) : zEv σ (d + 1) 1834 0 [some (.ref 137), some (.int (Int32.ofNat t)), some (.int (Int32.ofNat 0)), some (.int (Int32.ofNat n))] [] (zS1, zrow m 138 W, yy) (.inl (some (.int (q_does0 m W t n).1))) (zS1, zrow ((q_does0 m W t n).2.2) 138 ((q_does0 m W t n).2.1), yy) := by
  refine zeP rfl rfl ?_
  refine zeP rfl rfl ?_
  refine zeP rfl rfl ?_
  refine zeP rfl rfl ?_
  refine zeP rfl rfl ?_
  refine zeCF rfl rfl rfl rfl rfl rfl (c_takes (m := m) (W := W) (t := t) (l := n) hk ht hn) (by omega) ?_
  dsimp only [Option.toList, List.cons_append, List.nil_append]
  exact zeRe rfl rfl rfl (zretB rfl rfl (takes_ok hk ht hn).2) (by rfl) (by rfl)
theorem c_does0 {σ : Nat → Nat × (Nat → Int32)} {yy : (Nat → Nat → Int64) × Bool × Nat × Nat} {m : Nat → Nat → Int32} {W : Nat → Int32} {t : Nat} {n : Nat} (hk : KG W t) (ht : t < 4) (hn : n < 4) : zF σ 8 1834 [.ref 137, .int (Int32.ofNat t), .int (Int32.ofNat 0), .int (Int32.ofNat n)] (zS1, zrow m 138 W, yy) (.inl (some (.int (q_does0 m W t n).1))) (zS1, zrow ((q_does0 m W t n).2.2) 138 ((q_does0 m W t n).2.1), yy) := by
  intro d hd
  obtain ⟨d, rfl⟩ : ∃ k, d = k + 1 := ⟨d - 1, by omega⟩
  exact p_does0 hd hk ht hn
noncomputable def q_does1 (m : Nat → Nat → Int32) (W : Nat → Int32) (t : Nat) (n : Nat) : Int32 × (Nat → Int32) × (Nat → Nat → Int32) := ((q_drops m W t n).1, (q_drops m W t n).2.1, (q_drops m W t n).2.2)
theorem p_does1 {σ : Nat → Nat × (Nat → Int32)} {yy : (Nat → Nat → Int64) × Bool × Nat × Nat} {m : Nat → Nat → Int32} {W : Nat → Int32} {t : Nat} {n : Nat} {d : Nat} (hd : 8 ≤ d + 1) (hk : KG W t) (ht : t < 4) (hn : n < 4) : zEv σ (d + 1) 1834 0 [some (.ref 137), some (.int (Int32.ofNat t)), some (.int (Int32.ofNat 1)), some (.int (Int32.ofNat n))] [] (zS1, zrow m 138 W, yy) (.inl (some (.int (q_does1 m W t n).1))) (zS1, zrow ((q_does1 m W t n).2.2) 138 ((q_does1 m W t n).2.1), yy) := by
  refine zeP rfl rfl ?_
  refine zeP rfl rfl ?_
  refine zeP rfl rfl ?_
  refine zeP rfl rfl ?_
  refine zeP rfl rfl ?_
  refine zeCF rfl rfl rfl rfl rfl rfl (c_drops (m := m) (W := W) (t := t) (l := n) hk ht hn) (by omega) ?_
  dsimp only [Option.toList, List.cons_append, List.nil_append]
  exact zeRe rfl rfl rfl (zretB rfl rfl (drops_ok hk ht hn).2) (by rfl) (by rfl)
theorem c_does1 {σ : Nat → Nat × (Nat → Int32)} {yy : (Nat → Nat → Int64) × Bool × Nat × Nat} {m : Nat → Nat → Int32} {W : Nat → Int32} {t : Nat} {n : Nat} (hk : KG W t) (ht : t < 4) (hn : n < 4) : zF σ 8 1834 [.ref 137, .int (Int32.ofNat t), .int (Int32.ofNat 1), .int (Int32.ofNat n)] (zS1, zrow m 138 W, yy) (.inl (some (.int (q_does1 m W t n).1))) (zS1, zrow ((q_does1 m W t n).2.2) 138 ((q_does1 m W t n).2.1), yy) := by
  intro d hd
  obtain ⟨d, rfl⟩ : ∃ k, d = k + 1 := ⟨d - 1, by omega⟩
  exact p_does1 hd hk ht hn
noncomputable def q_does2 (m : Nat → Nat → Int32) (W : Nat → Int32) (t : Nat) (n : Nat) : Int32 × (Nat → Int32) × (Nat → Nat → Int32) := (bif zc1 .ne (q_reads m W t ((Int32.ofNat n))).1 then ((Int32.ofNat 1), (upd ((q_reads m W t ((Int32.ofNat n))).2.1) (376 + 103 * t + 1) (q_seen ((q_reads m W t ((Int32.ofNat n))).2.1) t n)), (q_reads m W t ((Int32.ofNat n))).2.2) else ((Int32.ofNat 0), (q_reads m W t ((Int32.ofNat n))).2.1, (q_reads m W t ((Int32.ofNat n))).2.2))
theorem p_does2 {σ : Nat → Nat × (Nat → Int32)} {yy : (Nat → Nat → Int64) × Bool × Nat × Nat} {m : Nat → Nat → Int32} {W : Nat → Int32} {t : Nat} {n : Nat} {d : Nat} (hd : 7 ≤ d + 1) (hk : KG W t) (ht : t < 4) (hn : n < 32) : zEv σ (d + 1) 1834 0 [some (.ref 137), some (.int (Int32.ofNat t)), some (.int (Int32.ofNat 2)), some (.int (Int32.ofNat n))] [] (zS1, zrow m 138 W, yy) (.inl (some (.int (q_does2 m W t n).1))) (zS1, zrow ((q_does2 m W t n).2.2) 138 ((q_does2 m W t n).2.1), yy) := by
  refine zeP rfl rfl ?_
  refine zeP rfl rfl ?_
  refine zeP rfl rfl ?_
  refine zeP rfl rfl ?_
  refine zeP rfl rfl ?_
  refine zeCF rfl rfl rfl rfl rfl rfl (c_reads (m := m) (W := W) (t := t) (w := (Int32.ofNat n)) hk.1 ht) (by omega) ?_
  dsimp only [Option.toList, List.cons_append, List.nil_append]
  refine zeB1 rfl rfl (fun h1 => ?_) (fun h1 => ?_)
  · refine zeP rfl rfl ?_
    refine zeGR rfl rfl zS137 rfl rfl ?_
    refine zeP rfl rfl ?_
    refine zeKn (c := 1) rfl rfl rfl ?_
    refine zeCF rfl rfl rfl rfl rfl rfl (c_at (m := (q_reads m W t ((Int32.ofNat n))).2.2) (W := (q_reads m W t ((Int32.ofNat n))).2.1) (t := t) (k := 1) ) (by omega) ?_
    dsimp only [Option.toList, List.cons_append, List.nil_append]
    refine zeP rfl rfl ?_
    refine zeP rfl rfl ?_
    refine zeP rfl rfl ?_
    refine zeCF rfl rfl rfl rfl rfl rfl (c_seen (m := (q_reads m W t ((Int32.ofNat n))).2.2) (W := (q_reads m W t ((Int32.ofNat n))).2.1) (t := t) (w := n) ht hn) (by omega) ?_
    dsimp only [Option.toList, List.cons_append, List.nil_append]
    refine zeWS (k := (376 + 103 * t + 1)) rfl (by omega) ?_
    refine zeKn (c := 1) rfl rfl rfl ?_
    exact zeRe rfl rfl rfl rfl (by simp only [q_does2, h1, cond_true, cond_false] <;> rfl) (by simp only [q_does2, h1, cond_true, cond_false] <;> rfl)
  · refine zeKn (c := 0) rfl rfl rfl ?_
    exact zeRe rfl rfl rfl rfl (by simp only [q_does2, h1, cond_true, cond_false] <;> rfl) (by simp only [q_does2, h1, cond_true, cond_false] <;> rfl)
theorem c_does2 {σ : Nat → Nat × (Nat → Int32)} {yy : (Nat → Nat → Int64) × Bool × Nat × Nat} {m : Nat → Nat → Int32} {W : Nat → Int32} {t : Nat} {n : Nat} (hk : KG W t) (ht : t < 4) (hn : n < 32) : zF σ 7 1834 [.ref 137, .int (Int32.ofNat t), .int (Int32.ofNat 2), .int (Int32.ofNat n)] (zS1, zrow m 138 W, yy) (.inl (some (.int (q_does2 m W t n).1))) (zS1, zrow ((q_does2 m W t n).2.2) 138 ((q_does2 m W t n).2.1), yy) := by
  intro d hd
  obtain ⟨d, rfl⟩ : ∃ k, d = k + 1 := ⟨d - 1, by omega⟩
  exact p_does2 hd hk ht hn
noncomputable def q_does3 (m : Nat → Nat → Int32) (W : Nat → Int32) (t : Nat) (n : Nat) : Int32 × (Nat → Int32) × (Nat → Nat → Int32) := ((q_writes m W t n ((q_of W t 1))).1, (q_writes m W t n ((q_of W t 1))).2.1, (q_writes m W t n ((q_of W t 1))).2.2)
theorem p_does3 {σ : Nat → Nat × (Nat → Int32)} {yy : (Nat → Nat → Int64) × Bool × Nat × Nat} {m : Nat → Nat → Int32} {W : Nat → Int32} {t : Nat} {n : Nat} {d : Nat} (hd : 7 ≤ d + 1) (hk : KG W t) (ht : t < 4) (hn : n < 32) : zEv σ (d + 1) 1834 0 [some (.ref 137), some (.int (Int32.ofNat t)), some (.int (Int32.ofNat 3)), some (.int (Int32.ofNat n))] [] (zS1, zrow m 138 W, yy) (.inl (some (.int (q_does3 m W t n).1))) (zS1, zrow ((q_does3 m W t n).2.2) 138 ((q_does3 m W t n).2.1), yy) := by
  refine zeP rfl rfl ?_
  refine zeP rfl rfl ?_
  refine zeP rfl rfl ?_
  refine zeP rfl rfl ?_
  refine zeP rfl rfl ?_
  refine zeP rfl rfl ?_
  refine zeP rfl rfl ?_
  refine zeKn (c := 1) rfl rfl rfl ?_
  refine zeCF rfl rfl rfl rfl rfl rfl (c_of (m := m) (W := W) (t := t) (k := 1) (by first | assumption | omega)) (by omega) ?_
  dsimp only [Option.toList, List.cons_append, List.nil_append]
  refine zeCF rfl rfl rfl rfl rfl rfl (c_writes (m := m) (W := W) (t := t) (w := n) (v := (q_of W t 1)) hk.1 ht hn) (by omega) ?_
  dsimp only [Option.toList, List.cons_append, List.nil_append]
  exact zeRe rfl rfl rfl (zretB rfl rfl writes_01) (by rfl) (by rfl)
theorem c_does3 {σ : Nat → Nat × (Nat → Int32)} {yy : (Nat → Nat → Int64) × Bool × Nat × Nat} {m : Nat → Nat → Int32} {W : Nat → Int32} {t : Nat} {n : Nat} (hk : KG W t) (ht : t < 4) (hn : n < 32) : zF σ 7 1834 [.ref 137, .int (Int32.ofNat t), .int (Int32.ofNat 3), .int (Int32.ofNat n)] (zS1, zrow m 138 W, yy) (.inl (some (.int (q_does3 m W t n).1))) (zS1, zrow ((q_does3 m W t n).2.2) 138 ((q_does3 m W t n).2.1), yy) := by
  intro d hd
  obtain ⟨d, rfl⟩ : ∃ k, d = k + 1 := ⟨d - 1, by omega⟩
  exact p_does3 hd hk ht hn
noncomputable def q_does4 (W : Nat → Int32) (t : Nat) (n : Nat) : Int32 × (Nat → Int32) := ((Int32.ofNat 1), (upd W (376 + 103 * t + 1) (Int32.ofNat n)))
theorem p_does4 {σ : Nat → Nat × (Nat → Int32)} {yy : (Nat → Nat → Int64) × Bool × Nat × Nat} {m : Nat → Nat → Int32} {W : Nat → Int32} {t : Nat} {n : Nat} {d : Nat} (hd : 2 ≤ d + 1) (hk : KG W t) (ht : t < 4) : zEv σ (d + 1) 1834 0 [some (.ref 137), some (.int (Int32.ofNat t)), some (.int (Int32.ofNat 4)), some (.int (Int32.ofNat n))] [] (zS1, zrow m 138 W, yy) (.inl (some (.int (q_does4 W t n).1))) (zS1, zrow m 138 ((q_does4 W t n).2), yy) := by
  refine zeP rfl rfl ?_
  refine zeP rfl rfl ?_
  refine zeP rfl rfl ?_
  refine zeGR rfl rfl zS137 rfl rfl ?_
  refine zeP rfl rfl ?_
  refine zeKn (c := 1) rfl rfl rfl ?_
  refine zeCF rfl rfl rfl rfl rfl rfl (c_at (m := m) (W := W) (t := t) (k := 1) ) (by omega) ?_
  dsimp only [Option.toList, List.cons_append, List.nil_append]
  refine zeP rfl rfl ?_
  refine zeWS (k := (376 + 103 * t + 1)) rfl (by omega) ?_
  refine zeKn (c := 1) rfl rfl rfl ?_
  exact zeRe rfl rfl rfl rfl (by rfl) (by rfl)
theorem c_does4 {σ : Nat → Nat × (Nat → Int32)} {yy : (Nat → Nat → Int64) × Bool × Nat × Nat} {m : Nat → Nat → Int32} {W : Nat → Int32} {t : Nat} {n : Nat} (hk : KG W t) (ht : t < 4) : zF σ 2 1834 [.ref 137, .int (Int32.ofNat t), .int (Int32.ofNat 4), .int (Int32.ofNat n)] (zS1, zrow m 138 W, yy) (.inl (some (.int (q_does4 W t n).1))) (zS1, zrow m 138 ((q_does4 W t n).2), yy) := by
  intro d hd
  obtain ⟨d, rfl⟩ : ∃ k, d = k + 1 := ⟨d - 1, by omega⟩
  exact p_does4 hd hk ht
noncomputable def q_does5 (W : Nat → Int32) (t : Nat) (n : Nat) : Int32 × (Nat → Int32) := ((Int32.ofNat 1), (upd W (376 + 103 * t + 1) (((q_of W t 1) + (Int32.ofNat n)) - ((q_of W t 1) + (Int32.ofNat n)) / (Int32.ofNat 10000) * (Int32.ofNat 10000))))
theorem p_does5 {σ : Nat → Nat × (Nat → Int32)} {yy : (Nat → Nat → Int64) × Bool × Nat × Nat} {m : Nat → Nat → Int32} {W : Nat → Int32} {t : Nat} {n : Nat} {d : Nat} (hd : 3 ≤ d + 1) (hk : KG W t) (ht : t < 4) : zEv σ (d + 1) 1834 0 [some (.ref 137), some (.int (Int32.ofNat t)), some (.int (Int32.ofNat 5)), some (.int (Int32.ofNat n))] [] (zS1, zrow m 138 W, yy) (.inl (some (.int (q_does5 W t n).1))) (zS1, zrow m 138 ((q_does5 W t n).2), yy) := by
  refine zeP rfl rfl ?_
  refine zeP rfl rfl ?_
  refine zeP rfl rfl ?_
  refine zeGR rfl rfl zS137 rfl rfl ?_
  refine zeP rfl rfl ?_
  refine zeKn (c := 1) rfl rfl rfl ?_
  refine zeCF rfl rfl rfl rfl rfl rfl (c_at (m := m) (W := W) (t := t) (k := 1) ) (by omega) ?_
  dsimp only [Option.toList, List.cons_append, List.nil_append]
  refine zeP rfl rfl ?_
  refine zeP rfl rfl ?_
  refine zeKn (c := 1) rfl rfl rfl ?_
  refine zeCF rfl rfl rfl rfl rfl rfl (c_of (m := m) (W := W) (t := t) (k := 1) (by first | assumption | omega)) (by omega) ?_
  dsimp only [Option.toList, List.cons_append, List.nil_append]
  refine zeP rfl rfl ?_
  refine zeP rfl rfl ?_
  refine zeKn (c := 10000) rfl rfl rfl ?_
  refine zeRem rfl (by decide) ?_
  refine zeWS (k := (376 + 103 * t + 1)) rfl (by omega) ?_
  refine zeKn (c := 1) rfl rfl rfl ?_
  exact zeRe rfl rfl rfl rfl (by rfl) (by rfl)
theorem c_does5 {σ : Nat → Nat × (Nat → Int32)} {yy : (Nat → Nat → Int64) × Bool × Nat × Nat} {m : Nat → Nat → Int32} {W : Nat → Int32} {t : Nat} {n : Nat} (hk : KG W t) (ht : t < 4) : zF σ 3 1834 [.ref 137, .int (Int32.ofNat t), .int (Int32.ofNat 5), .int (Int32.ofNat n)] (zS1, zrow m 138 W, yy) (.inl (some (.int (q_does5 W t n).1))) (zS1, zrow m 138 ((q_does5 W t n).2), yy) := by
  intro d hd
  obtain ⟨d, rfl⟩ : ∃ k, d = k + 1 := ⟨d - 1, by omega⟩
  exact p_does5 hd hk ht
noncomputable def q_does6 (W : Nat → Int32) (t : Nat) (n : Nat) : Int32 × (Nat → Int32) := ((q_works W t ((Int32.ofNat n))).1, (q_works W t ((Int32.ofNat n))).2)
theorem p_does6 {σ : Nat → Nat × (Nat → Int32)} {yy : (Nat → Nat → Int64) × Bool × Nat × Nat} {m : Nat → Nat → Int32} {W : Nat → Int32} {t : Nat} {n : Nat} {d : Nat} (hd : 4 ≤ d + 1) (hk : KG W t) (ht : t < 4) : zEv σ (d + 1) 1834 0 [some (.ref 137), some (.int (Int32.ofNat t)), some (.int (Int32.ofNat 6)), some (.int (Int32.ofNat n))] [] (zS1, zrow m 138 W, yy) (.inl (some (.int (q_does6 W t n).1))) (zS1, zrow m 138 ((q_does6 W t n).2), yy) := by
  refine zeP rfl rfl ?_
  refine zeP rfl rfl ?_
  refine zeP rfl rfl ?_
  refine zeP rfl rfl ?_
  refine zeP rfl rfl ?_
  refine zeCF rfl rfl rfl rfl rfl rfl (c_works (m := m) (W := W) (t := t) (n := (Int32.ofNat n)) ht) (by omega) ?_
  dsimp only [Option.toList, List.cons_append, List.nil_append]
  exact zeRe rfl rfl rfl (zretB rfl rfl (works_ok hk ht).2) (by rfl) (by rfl)
theorem c_does6 {σ : Nat → Nat × (Nat → Int32)} {yy : (Nat → Nat → Int64) × Bool × Nat × Nat} {m : Nat → Nat → Int32} {W : Nat → Int32} {t : Nat} {n : Nat} (hk : KG W t) (ht : t < 4) : zF σ 4 1834 [.ref 137, .int (Int32.ofNat t), .int (Int32.ofNat 6), .int (Int32.ofNat n)] (zS1, zrow m 138 W, yy) (.inl (some (.int (q_does6 W t n).1))) (zS1, zrow m 138 ((q_does6 W t n).2), yy) := by
  intro d hd
  obtain ⟨d, rfl⟩ : ∃ k, d = k + 1 := ⟨d - 1, by omega⟩
  exact p_does6 hd hk ht
noncomputable def q_does7 (m : Nat → Nat → Int32) (W : Nat → Int32) (t : Nat) (n : Nat) : Int32 × (Nat → Int32) × (Nat → Nat → Int32) := ((q_putsOut m W t).1, (q_putsOut m W t).2.1, (q_putsOut m W t).2.2)
theorem p_does7 {σ : Nat → Nat × (Nat → Int32)} {yy : (Nat → Nat → Int64) × Bool × Nat × Nat} {m : Nat → Nat → Int32} {W : Nat → Int32} {t : Nat} {n : Nat} {d : Nat} (hd : 6 ≤ d + 1) (hk : KG W t) (ht : t < 4) : zEv σ (d + 1) 1834 0 [some (.ref 137), some (.int (Int32.ofNat t)), some (.int (Int32.ofNat 7)), some (.int (Int32.ofNat n))] [] (zS1, zrow m 138 W, yy) (.inl (some (.int (q_does7 m W t n).1))) (zS1, zrow ((q_does7 m W t n).2.2) 138 ((q_does7 m W t n).2.1), yy) := by
  refine zeP rfl rfl ?_
  refine zeP rfl rfl ?_
  refine zeP rfl rfl ?_
  refine zeP rfl rfl ?_
  refine zeCF rfl rfl rfl rfl rfl rfl (c_putsOut (m := m) (W := W) (t := t) hk ht hk.1.1.2.2.2.2.1.1 hk.1.1.2.2.2.2.1.2.2) (by omega) ?_
  dsimp only [Option.toList, List.cons_append, List.nil_append]
  exact zeRe rfl rfl rfl (zretB rfl rfl (putsOut_ok hk ht).2) (by rfl) (by rfl)
theorem c_does7 {σ : Nat → Nat × (Nat → Int32)} {yy : (Nat → Nat → Int64) × Bool × Nat × Nat} {m : Nat → Nat → Int32} {W : Nat → Int32} {t : Nat} {n : Nat} (hk : KG W t) (ht : t < 4) : zF σ 6 1834 [.ref 137, .int (Int32.ofNat t), .int (Int32.ofNat 7), .int (Int32.ofNat n)] (zS1, zrow m 138 W, yy) (.inl (some (.int (q_does7 m W t n).1))) (zS1, zrow ((q_does7 m W t n).2.2) 138 ((q_does7 m W t n).2.1), yy) := by
  intro d hd
  obtain ⟨d, rfl⟩ : ∃ k, d = k + 1 := ⟨d - 1, by omega⟩
  exact p_does7 hd hk ht
end
section
noncomputable def q_does (m : Nat → Nat → Int32) (W : Nat → Int32) (t K n : Nat) : QT := match K with
  | 0 => q_does0 m W t n
  | 1 => q_does1 m W t n
  | 2 => q_does2 m W t n
  | 3 => q_does3 m W t n
  | 4 => ((q_does4 W t n).1, (q_does4 W t n).2, m)
  | 5 => ((q_does5 W t n).1, (q_does5 W t n).2, m)
  | 6 => ((q_does6 W t n).1, (q_does6 W t n).2, m)
  | _ => q_does7 m W t n
theorem c_does {σ : Nat → Nat × (Nat → Int32)} {yy : (Nat → Nat → Int64) × Bool × Nat × Nat} {m : Nat → Nat → Int32} {W : Nat → Int32} {t K n : Nat} (hk : KG W t) (ht : t < 4) (hK : K < 8) (hn1 : K ≤ 1 → n ≤ 3) (hn3 : K ≤ 3 → n ≤ 31) : zF σ 8 1834 [.ref 137, .int (Int32.ofNat t), .int (Int32.ofNat K), .int (Int32.ofNat n)] (zS1, zrow m 138 W, yy) (.inl (some (.int (q_does m W t K n).1))) (zS1, zrow ((q_does m W t K n).2.2) 138 ((q_does m W t K n).2.1), yy) := by
  match K, hK, hn1, hn3 with
  | 0, _, hn1, hn3 => exact zF.up (c_does0 (m := m) (W := W) (t := t) (n := n) hk ht (Nat.lt_succ_of_le (hn1 (by omega)))) (by omega)
  | 1, _, hn1, hn3 => exact zF.up (c_does1 (m := m) (W := W) (t := t) (n := n) hk ht (Nat.lt_succ_of_le (hn1 (by omega)))) (by omega)
  | 2, _, hn1, hn3 => exact zF.up (c_does2 (m := m) (W := W) (t := t) (n := n) hk ht (Nat.lt_succ_of_le (hn3 (by omega)))) (by omega)
  | 3, _, hn1, hn3 => exact zF.up (c_does3 (m := m) (W := W) (t := t) (n := n) hk ht (Nat.lt_succ_of_le (hn3 (by omega)))) (by omega)
  | 4, _, hn1, hn3 => exact zF.up (c_does4 (m := m) (W := W) (t := t) (n := n) hk ht) (by omega)
  | 5, _, hn1, hn3 => exact zF.up (c_does5 (m := m) (W := W) (t := t) (n := n) hk ht) (by omega)
  | 6, _, hn1, hn3 => exact zF.up (c_does6 (m := m) (W := W) (t := t) (n := n) hk ht) (by omega)
  | 7, _, hn1, hn3 => exact zF.up (c_does7 (m := m) (W := W) (t := t) (n := n) hk ht) (by omega)
theorem does_ok {W : Nat → Int32} {m : Nat → Nat → Int32} {t K n : Nat} (h : KG W t) (ht : t < 4) (hK : K < 8) (hn1 : K ≤ 1 → n ≤ 3) (hn3 : K ≤ 3 → n ≤ 31) : KB t (q_does m W t K n) := by
  match K, hK, hn1, hn3 with
  | 0, _, hn1, hn3 => exact takes_ok h ht (Nat.lt_succ_of_le (hn1 (by omega)))
  | 1, _, hn1, hn3 => exact drops_ok h ht (Nat.lt_succ_of_le (hn1 (by omega)))
  | 2, _, hn1, hn3 =>
    show KB t (q_does2 m W t n)
    unfold q_does2
    have ar := h.reads (m := m) ht (Int32.ofNat n)
    generalize q_reads m W t (Int32.ofNat n) = cr at ar ⊢
    exact cndi (KB t) ⟨ar.put ht _ (fre_at ht (by omega) (by unfold cT; omega)), b01_1⟩ ⟨ar, b01_0⟩
  | 3, _, hn1, hn3 => exact ⟨h.writes ht (Nat.lt_succ_of_le (hn3 (by omega))) _, writes_01⟩
  | 4, _, _, _ => exact ⟨h.put ht _ (fre_at ht (by omega) (by unfold cT; omega)), b01_1⟩
  | 5, _, _, _ => exact ⟨h.put ht _ (fre_at ht (by omega) (by unfold cT; omega)), b01_1⟩
  | 6, _, _, _ => exact works_ok h ht
  | 7, _, _, _ => exact putsOut_ok h ht
/-- the deed that is next -/
theorem KG.deed {W : Nat → Int32} {t : Nat} (h : KG W t) (ht : t < 4) : nv W (376 + 103 * t + 0) < 24 ∧ DG W t (nv W (376 + 103 * t + 0)) := by
  have h1 := (h.1.2 t ht).2.2.2.1.2.2
  have h2 : nv W (376 + 103 * t + 0) < nv W (376 + 103 * t + 22) := h.2
  exact ⟨by omega, (h.1.2 t ht).2.2.2.2.2.2.2 _ (by omega)⟩
noncomputable def q_stepsE (m : Nat → Nat → Int32) (W : Nat → Int32) (t : Nat) (on : Int32) : Int32 × (Nat → Int32) := (bif zc1 .eq (m 137 5) then (bif zc1 .eq on then ((Int32.ofNat 0), (upd ((upd W 12 (Int32.ofNat t))) 11 ((((upd W 12 (Int32.ofNat t))) 11) + (Int32.ofNat 1)))) else ((Int32.ofNat 1), (upd ((upd W 12 (Int32.ofNat t))) 11 ((((upd W 12 (Int32.ofNat t))) 11) + (Int32.ofNat 1))))) else ((-1), (upd ((upd W 12 (Int32.ofNat t))) 11 ((((upd W 12 (Int32.ofNat t))) 11) + (Int32.ofNat 1)))))
theorem p_stepsE {σ : Nat → Nat × (Nat → Int32)} {yy : (Nat → Nat → Int64) × Bool × Nat × Nat} {m : Nat → Nat → Int32} {W : Nat → Int32} {t : Nat} {x2 : Option Value} {on : Int32} {d : Nat} (hd : 1 ≤ d + 1) (ht : t < 4) : zEv σ (d + 1) 1835 93 [some (.ref 137), some (.int (Int32.ofNat t)), x2, some (.int on)] [] (zS1, zrow m 138 W, yy) (.inl (some (.int (q_stepsE m W t on).1))) (zS1, zrow m 138 ((q_stepsE m W t on).2), yy) := by
  refine zeP rfl rfl ?_
  refine zeGR rfl rfl zS137 rfl rfl ?_
  refine zeKn (c := 12) rfl rfl rfl ?_
  refine zeP rfl rfl ?_
  refine zeWS (k := 12) rfl (by omega) ?_
  refine zeP rfl rfl ?_
  refine zeGR rfl rfl zS137 rfl rfl ?_
  refine zeKn (c := 11) rfl rfl rfl ?_
  refine zeP rfl rfl ?_
  refine zeWL (k := 11) rfl (by omega) ?_
  refine zeKn (c := 1) rfl rfl rfl ?_
  refine zeP rfl rfl ?_
  refine zeWS (k := 11) rfl (by omega) ?_
  refine zeP rfl rfl ?_
  refine zeFI rfl rfl rfl rfl ?_
  refine zeB1 rfl rfl (fun h1 => ?_) (fun h1 => ?_)
  · refine zeP rfl rfl ?_
    refine zeB1 rfl rfl (fun h2 => ?_) (fun h2 => ?_)
    · refine zeKn (c := 0) rfl rfl rfl ?_
      exact zeRe rfl rfl rfl rfl (by simp only [q_stepsE, h1, h2, cond_true, cond_false] <;> rfl) (by simp only [q_stepsE, h1, h2, cond_true, cond_false] <;> rfl)
    · refine zeKn (c := 1) rfl rfl rfl ?_
      refine zeP rfl rfl ?_
      exact zeRe rfl rfl rfl rfl (by simp only [q_stepsE, h1, h2, cond_true, cond_false] <;> rfl) (by simp only [q_stepsE, h1, h2, cond_true, cond_false] <;> rfl)
  · refine zeK (v := -1) rfl rfl rfl ?_
    refine zeP rfl rfl ?_
    exact zeRe rfl rfl rfl rfl (by simp only [q_stepsE, h1, cond_true, cond_false] <;> rfl) (by simp only [q_stepsE, h1, cond_true, cond_false] <;> rfl)
noncomputable def q_stepsD (m : Nat → Nat → Int32) (W : Nat → Int32) (t : Nat) (on : Int32) : Int32 × (Nat → Int32) × (Nat → Nat → Int32) := (bif zc1 .eq (q_isDone W t) then ((q_stepsE m W t on).1, (q_stepsE m W t on).2, m) else (bif zc2 .ne (q_of W t 2) (Int32.ofNat 1) then ((q_stepsE m ((q_logs W ((Int32.ofNat t)) ((Int32.ofNat 6)) ((Int32.ofNat 0)))) t on).1, (q_stepsE m ((q_logs W ((Int32.ofNat t)) ((Int32.ofNat 6)) ((Int32.ofNat 0)))) t on).2, m) else ((q_stepsE ((q_itFalls m W t 2).2) ((q_itFalls m W t 2).1) t on).1, (q_stepsE ((q_itFalls m W t 2).2) ((q_itFalls m W t 2).1) t on).2, (q_itFalls m W t 2).2)))
theorem p_stepsD {σ : Nat → Nat × (Nat → Int32)} {yy : (Nat → Nat → Int64) × Bool × Nat × Nat} {m : Nat → Nat → Int32} {W : Nat → Int32} {t : Nat} {x2 : Option Value} {on : Int32} {d : Nat} (hd : 5 ≤ d + 1) (hw : WG W) (ht : t < 4) : zEv σ (d + 1) 1835 50 [some (.ref 137), some (.int (Int32.ofNat t)), x2, some (.int on)] [] (zS1, zrow m 138 W, yy) (.inl (some (.int (q_stepsD m W t on).1))) (zS1, zrow ((q_stepsD m W t on).2.2) 138 ((q_stepsD m W t on).2.1), yy) := by
  refine zeP rfl rfl ?_
  refine zeP rfl rfl ?_
  refine zeCF rfl rfl rfl rfl rfl rfl (c_isDone (m := m) (W := W) (t := t) ht) (by omega) ?_
  dsimp only [Option.toList, List.cons_append, List.nil_append]
  refine zeB1 rfl rfl (fun h1 => ?_) (fun h1 => ?_)
  · refine zeP rfl rfl ?_
    refine zeP rfl rfl ?_
    refine zeCF rfl rfl rfl rfl rfl rfl (c_isDone (m := m) (W := W) (t := t) ht) (by omega) ?_
    dsimp only [Option.toList, List.cons_append, List.nil_append]
    refine zeT1 rfl rfl h1 ?_
    simp only [q_stepsD, h1, cond_true, cond_false]
    exact p_stepsE (t := t) (x2 := x2) (on := on) (W := W) (m := m) (by omega) ht
  · refine zeP rfl rfl ?_
    refine zeP rfl rfl ?_
    refine zeKn (c := 2) rfl rfl rfl ?_
    refine zeCF rfl rfl rfl rfl rfl rfl (c_of (m := m) (W := W) (t := t) (k := 2) (by first | assumption | omega)) (by omega) ?_
    dsimp only [Option.toList, List.cons_append, List.nil_append]
    refine zeKn (c := 1) rfl rfl rfl ?_
    refine zeB2 rfl rfl (fun h2 => ?_) (fun h2 => ?_)
    · refine zeP rfl rfl ?_
      refine zeP rfl rfl ?_
      refine zeCF rfl rfl rfl rfl rfl rfl (c_isDone (m := m) (W := W) (t := t) ht) (by omega) ?_
      dsimp only [Option.toList, List.cons_append, List.nil_append]
      refine zeF1 rfl rfl h1 ?_
      refine zeP rfl rfl ?_
      refine zeP rfl rfl ?_
      refine zeKn (c := 6) rfl rfl rfl ?_
      refine zeKn (c := 0) rfl rfl rfl ?_
      refine zeCF rfl rfl rfl rfl rfl rfl (c_logs (m := m) (W := W) (t := (Int32.ofNat t)) (w := (Int32.ofNat 6)) (v := (Int32.ofNat 0)) hw.C.1 hw.C.2) (by omega) ?_
      dsimp only [Option.toList, List.cons_append, List.nil_append]
      simp only [q_stepsD, h1, h2, cond_true, cond_false]
      exact p_stepsE (t := t) (x2 := x2) (on := on) (W := (q_logs W ((Int32.ofNat t)) ((Int32.ofNat 6)) ((Int32.ofNat 0)))) (m := m) (by omega) ht
    · refine zeP rfl rfl ?_
      refine zeP rfl rfl ?_
      refine zeKn (c := 2) rfl rfl rfl ?_
      refine zeCF rfl rfl rfl rfl rfl rfl (c_itFalls (m := m) (W := W) (t := t) (y := 2) ht (by omega) (hw.L t ht).1 (hw.L t ht).2 hw.C.1 hw.C.2) (by omega) ?_
      dsimp only [Option.toList, List.cons_append, List.nil_append]
      refine zeP rfl rfl ?_
      simp only [q_stepsD, h1, h2, cond_true, cond_false]
      exact p_stepsE (t := t) (x2 := x2) (on := on) (W := (q_itFalls m W t 2).1) (m := (q_itFalls m W t 2).2) (by omega) ht
theorem KG.adv {W : Nat → Int32} {t : Nat} (h : KG W t) (ht : t < 4) : WG (upd W (376 + 103 * t + 0) (W (376 + 103 * t + 0) + Int32.ofNat 1)) := by
  have e : W (376 + 103 * t + 0) + Int32.ofNat 1 = Int32.ofNat (nv W (376 + 103 * t + 0) + 1) := by
    rw [Int32.ofNat_add, ← (h.1.2 t ht).2.2.2.2.1.1]
  rw [e]
  exact h.1.at0 ht h.2
noncomputable def q_steps (m : Nat → Nat → Int32) (W : Nat → Int32) (t : Nat) : Int32 × (Nat → Int32) × (Nat → Nat → Int32) := (bif zc1 .eq (q_does ((zm2 m 137 5 (Int32.ofNat 0))) W t ((nv W (376 + 103 * t + (55 + 2 * nv W (376 + 103 * t + 0))))) ((nv W (376 + 103 * t + (55 + 2 * nv W (376 + 103 * t + 0) + 1))))).1 then ((q_stepsE ((q_does ((zm2 m 137 5 (Int32.ofNat 0))) W t ((nv W (376 + 103 * t + (55 + 2 * nv W (376 + 103 * t + 0))))) ((nv W (376 + 103 * t + (55 + 2 * nv W (376 + 103 * t + 0) + 1))))).2.2) ((q_does ((zm2 m 137 5 (Int32.ofNat 0))) W t ((nv W (376 + 103 * t + (55 + 2 * nv W (376 + 103 * t + 0))))) ((nv W (376 + 103 * t + (55 + 2 * nv W (376 + 103 * t + 0) + 1))))).2.1) t ((q_does ((zm2 m 137 5 (Int32.ofNat 0))) W t ((nv W (376 + 103 * t + (55 + 2 * nv W (376 + 103 * t + 0))))) ((nv W (376 + 103 * t + (55 + 2 * nv W (376 + 103 * t + 0) + 1))))).1)).1, (q_stepsE ((q_does ((zm2 m 137 5 (Int32.ofNat 0))) W t ((nv W (376 + 103 * t + (55 + 2 * nv W (376 + 103 * t + 0))))) ((nv W (376 + 103 * t + (55 + 2 * nv W (376 + 103 * t + 0) + 1))))).2.2) ((q_does ((zm2 m 137 5 (Int32.ofNat 0))) W t ((nv W (376 + 103 * t + (55 + 2 * nv W (376 + 103 * t + 0))))) ((nv W (376 + 103 * t + (55 + 2 * nv W (376 + 103 * t + 0) + 1))))).2.1) t ((q_does ((zm2 m 137 5 (Int32.ofNat 0))) W t ((nv W (376 + 103 * t + (55 + 2 * nv W (376 + 103 * t + 0))))) ((nv W (376 + 103 * t + (55 + 2 * nv W (376 + 103 * t + 0) + 1))))).1)).2, (q_does ((zm2 m 137 5 (Int32.ofNat 0))) W t ((nv W (376 + 103 * t + (55 + 2 * nv W (376 + 103 * t + 0))))) ((nv W (376 + 103 * t + (55 + 2 * nv W (376 + 103 * t + 0) + 1))))).2.2) else (q_stepsD ((q_does ((zm2 m 137 5 (Int32.ofNat 0))) W t ((nv W (376 + 103 * t + (55 + 2 * nv W (376 + 103 * t + 0))))) ((nv W (376 + 103 * t + (55 + 2 * nv W (376 + 103 * t + 0) + 1))))).2.2) ((upd ((q_does ((zm2 m 137 5 (Int32.ofNat 0))) W t ((nv W (376 + 103 * t + (55 + 2 * nv W (376 + 103 * t + 0))))) ((nv W (376 + 103 * t + (55 + 2 * nv W (376 + 103 * t + 0) + 1))))).2.1) (376 + 103 * t + 0) ((((q_does ((zm2 m 137 5 (Int32.ofNat 0))) W t ((nv W (376 + 103 * t + (55 + 2 * nv W (376 + 103 * t + 0))))) ((nv W (376 + 103 * t + (55 + 2 * nv W (376 + 103 * t + 0) + 1))))).2.1) (376 + 103 * t + 0)) + (Int32.ofNat 1)))) t ((q_does ((zm2 m 137 5 (Int32.ofNat 0))) W t ((nv W (376 + 103 * t + (55 + 2 * nv W (376 + 103 * t + 0))))) ((nv W (376 + 103 * t + (55 + 2 * nv W (376 + 103 * t + 0) + 1))))).1)))
theorem p_steps {σ : Nat → Nat × (Nat → Int32)} {yy : (Nat → Nat → Int64) × Bool × Nat × Nat} {m : Nat → Nat → Int32} {W : Nat → Int32} {t : Nat} {d : Nat} (hd : 9 ≤ d + 1) (hk : KG W t) (ht : t < 4) : zEv σ (d + 1) 1835 0 [some (.ref 137), some (.int (Int32.ofNat t)), none, none] [] (zS1, zrow m 138 W, yy) (.inl (some (.int (q_steps m W t).1))) (zS1, zrow ((q_steps m W t).2.2) 138 ((q_steps m W t).2.1), yy) := by
  refine zeP rfl rfl ?_
  refine zeKn (c := 0) rfl rfl rfl ?_
  refine zeFB rfl rfl rfl (Or.inl rfl) ?_
  refine zeP rfl rfl ?_
  refine zeP rfl rfl ?_
  refine zeKn (c := 0) rfl rfl rfl ?_
  refine zeCF rfl rfl rfl rfl rfl rfl (c_of (m := (zm2 m 137 5 (Int32.ofNat 0))) (W := W) (t := t) (k := 0) (by first | assumption | omega)) (by omega) ?_
  dsimp only [Option.toList, List.cons_append, List.nil_append]
  rw [show q_of W t 0 = Int32.ofNat (nv W (376 + 103 * t + 0)) from (hk.1.2 t ht).2.2.2.2.1.1]
  refine zeP rfl rfl ?_
  refine zeP rfl rfl ?_
  refine zeP rfl rfl ?_
  refine zeP rfl rfl ?_
  refine zeP rfl rfl ?_
  refine zeP rfl rfl ?_
  refine zeKn (c := 0) rfl rfl rfl ?_
  refine zeCF rfl rfl rfl rfl rfl rfl (c_deedOf (m := (zm2 m 137 5 (Int32.ofNat 0))) (W := W) (t := t) (p := (nv W (376 + 103 * t + 0))) (k := 0) (by have := (hk.deed ht).1; omega)) (by omega) ?_
  dsimp only [Option.toList, List.cons_append, List.nil_append]
  rw [show q_deedOf W t (nv W (376 + 103 * t + 0)) 0 = Int32.ofNat (nv W (376 + 103 * t + (55 + 2 * nv W (376 + 103 * t + 0)))) from (hk.deed ht).2.1.1]
  refine zeP rfl rfl ?_
  refine zeP rfl rfl ?_
  refine zeP rfl rfl ?_
  refine zeKn (c := 1) rfl rfl rfl ?_
  refine zeCF rfl rfl rfl rfl rfl rfl (c_deedOf (m := (zm2 m 137 5 (Int32.ofNat 0))) (W := W) (t := t) (p := (nv W (376 + 103 * t + 0))) (k := 1) (by have := (hk.deed ht).1; omega)) (by omega) ?_
  dsimp only [Option.toList, List.cons_append, List.nil_append]
  rw [show q_deedOf W t (nv W (376 + 103 * t + 0)) 1 = Int32.ofNat (nv W (376 + 103 * t + (55 + 2 * nv W (376 + 103 * t + 0) + 1))) from (hk.deed ht).2.2.1.1]
  refine zeCF rfl rfl rfl rfl rfl rfl (c_does (m := (zm2 m 137 5 (Int32.ofNat 0))) (W := W) (t := t) (K := (nv W (376 + 103 * t + (55 + 2 * nv W (376 + 103 * t + 0))))) (n := (nv W (376 + 103 * t + (55 + 2 * nv W (376 + 103 * t + 0) + 1)))) hk ht (Nat.lt_succ_of_le (hk.deed ht).2.1.2.2) (hk.deed ht).2.2.2.1 (hk.deed ht).2.2.2.2) (by omega) ?_
  dsimp only [Option.toList, List.cons_append, List.nil_append]
  refine zeP rfl rfl ?_
  refine zeP rfl rfl ?_
  refine zeB1 rfl rfl (fun h1 => ?_) (fun h1 => ?_)
  · simp only [q_steps, h1, cond_true, cond_false]
    exact p_stepsE (t := t) (x2 := some (.int (Int32.ofNat (nv W (376 + 103 * t + 0))))) (on := (q_does ((zm2 m 137 5 (Int32.ofNat 0))) W t ((nv W (376 + 103 * t + (55 + 2 * nv W (376 + 103 * t + 0))))) ((nv W (376 + 103 * t + (55 + 2 * nv W (376 + 103 * t + 0) + 1))))).1) (W := (q_does ((zm2 m 137 5 (Int32.ofNat 0))) W t ((nv W (376 + 103 * t + (55 + 2 * nv W (376 + 103 * t + 0))))) ((nv W (376 + 103 * t + (55 + 2 * nv W (376 + 103 * t + 0) + 1))))).2.1) (m := (q_does ((zm2 m 137 5 (Int32.ofNat 0))) W t ((nv W (376 + 103 * t + (55 + 2 * nv W (376 + 103 * t + 0))))) ((nv W (376 + 103 * t + (55 + 2 * nv W (376 + 103 * t + 0) + 1))))).2.2) (by omega) ht
  · refine zeP rfl rfl ?_
    refine zeGR rfl rfl zS137 rfl rfl ?_
    refine zeP rfl rfl ?_
    refine zeKn (c := 0) rfl rfl rfl ?_
    refine zeCF rfl rfl rfl rfl rfl rfl (c_at (m := (q_does ((zm2 m 137 5 (Int32.ofNat 0))) W t ((nv W (376 + 103 * t + (55 + 2 * nv W (376 + 103 * t + 0))))) ((nv W (376 + 103 * t + (55 + 2 * nv W (376 + 103 * t + 0) + 1))))).2.2) (W := (q_does ((zm2 m 137 5 (Int32.ofNat 0))) W t ((nv W (376 + 103 * t + (55 + 2 * nv W (376 + 103 * t + 0))))) ((nv W (376 + 103 * t + (55 + 2 * nv W (376 + 103 * t + 0) + 1))))).2.1) (t := t) (k := 0) ) (by omega) ?_
    dsimp only [Option.toList, List.cons_append, List.nil_append]
    refine zeP rfl rfl ?_
    refine zeWL (k := (376 + 103 * t + 0)) rfl (by omega) ?_
    refine zeKn (c := 1) rfl rfl rfl ?_
    refine zeP rfl rfl ?_
    refine zeWS (k := (376 + 103 * t + 0)) rfl (by omega) ?_
    simp only [q_steps, h1, cond_true, cond_false]
    exact p_stepsD (t := t) (x2 := some (.int (Int32.ofNat (nv W (376 + 103 * t + 0))))) (on := (q_does ((zm2 m 137 5 (Int32.ofNat 0))) W t ((nv W (376 + 103 * t + (55 + 2 * nv W (376 + 103 * t + 0))))) ((nv W (376 + 103 * t + (55 + 2 * nv W (376 + 103 * t + 0) + 1))))).1) (W := (upd ((q_does ((zm2 m 137 5 (Int32.ofNat 0))) W t ((nv W (376 + 103 * t + (55 + 2 * nv W (376 + 103 * t + 0))))) ((nv W (376 + 103 * t + (55 + 2 * nv W (376 + 103 * t + 0) + 1))))).2.1) (376 + 103 * t + 0) ((((q_does ((zm2 m 137 5 (Int32.ofNat 0))) W t ((nv W (376 + 103 * t + (55 + 2 * nv W (376 + 103 * t + 0))))) ((nv W (376 + 103 * t + (55 + 2 * nv W (376 + 103 * t + 0) + 1))))).2.1) (376 + 103 * t + 0)) + (Int32.ofNat 1)))) (m := (q_does ((zm2 m 137 5 (Int32.ofNat 0))) W t ((nv W (376 + 103 * t + (55 + 2 * nv W (376 + 103 * t + 0))))) ((nv W (376 + 103 * t + (55 + 2 * nv W (376 + 103 * t + 0) + 1))))).2.2) (by omega) ((does_ok (m := (zm2 m 137 5 (Int32.ofNat 0))) hk ht (Nat.lt_succ_of_le (hk.deed ht).2.1.2.2) (hk.deed ht).2.2.2.1 (hk.deed ht).2.2.2.2).1.adv ht) ht
theorem c_steps {σ : Nat → Nat × (Nat → Int32)} {yy : (Nat → Nat → Int64) × Bool × Nat × Nat} {m : Nat → Nat → Int32} {W : Nat → Int32} {t : Nat} (hk : KG W t) (ht : t < 4) : zF σ 9 1835 [.ref 137, .int (Int32.ofNat t)] (zS1, zrow m 138 W, yy) (.inl (some (.int (q_steps m W t).1))) (zS1, zrow ((q_steps m W t).2.2) 138 ((q_steps m W t).2.1), yy) := by
  intro d hd
  obtain ⟨d, rfl⟩ : ∃ k, d = k + 1 := ⟨d - 1, by omega⟩
  exact p_steps hd hk ht
end
section
/-! a step keeps the order -/
theorem WG.stepsE {W : Nat → Int32} {m : Nat → Nat → Int32} (h : WG W) (t : Nat) (on : Int32) : WG (q_stepsE m W t on).2 := by
  have h1 : WG (upd (upd W 12 (Int32.ofNat t)) 11 (upd W 12 (Int32.ofNat t) 11 + Int32.ofNat 1)) := (h.put _ (fre_lo (by omega) (by omega))).put _ (fre_lo (by omega) (by omega))
  unfold q_stepsE
  exact cndi (fun q : Int32 × (Nat → Int32) => WG q.2) (cndi (fun q : Int32 × (Nat → Int32) => WG q.2) h1 h1) h1
theorem stepsE_12 {W : Nat → Int32} {m : Nat → Nat → Int32} {t : Nat} {on : Int32} : (q_stepsE m W t on).2 12 = Int32.ofNat t := by
  have h1 : upd (upd W 12 (Int32.ofNat t)) 11 (upd W 12 (Int32.ofNat t) 11 + Int32.ofNat 1) 12 = Int32.ofNat t := by rw [upd_ne _ _ (by omega), upd_at]
  unfold q_stepsE
  exact cndi (fun q : Int32 × (Nat → Int32) => q.2 12 = Int32.ofNat t) (cndi (fun q : Int32 × (Nat → Int32) => q.2 12 = Int32.ofNat t) h1 h1) h1
theorem stepsE_9 {W : Nat → Int32} {m : Nat → Nat → Int32} {t : Nat} {on : Int32} : (q_stepsE m W t on).2 9 = W 9 := by
  have h1 : upd (upd W 12 (Int32.ofNat t)) 11 (upd W 12 (Int32.ofNat t) 11 + Int32.ofNat 1) 9 = W 9 := by rw [upd_ne _ _ (by omega), upd_ne _ _ (by omega)]
  unfold q_stepsE
  exact cndi (fun q : Int32 × (Nat → Int32) => q.2 9 = W 9) (cndi (fun q : Int32 × (Nat → Int32) => q.2 9 = W 9) h1 h1) h1
/-- what a step leaves: order, whose turn it was -/
noncomputable def SO (t : Nat) (q : QT) : Prop := WG q.2.1 ∧ q.2.1 12 = Int32.ofNat t
theorem stepsD_ok {W : Nat → Int32} {m : Nat → Nat → Int32} {t : Nat} {on : Int32} (h : WG W) (ht : t < 4) : SO t (q_stepsD m W t on) := by
  have aE : ∀ (V : Nat → Int32) (m : Nat → Nat → Int32), WG V → WG (q_stepsE m V t on).2 ∧ (q_stepsE m V t on).2 12 = Int32.ofNat t := fun V m hV => ⟨hV.stepsE t on, stepsE_12⟩
  have a0 := aE W m h
  have a1 := aE _ m (h.logs (Int32.ofNat t) (Int32.ofNat 6) (Int32.ofNat 0))
  have a2 := aE (q_itFalls m W t 2).1 (q_itFalls m W t 2).2 (h.falls ht (by omega))
  unfold q_stepsD
  generalize q_stepsE m W t on = c0 at a0 ⊢
  generalize q_stepsE m (q_logs W (Int32.ofNat t) (Int32.ofNat 6) (Int32.ofNat 0)) t on = c1 at a1 ⊢
  generalize q_stepsE (q_itFalls m W t 2).2 (q_itFalls m W t 2).1 t on = c2 at a2 ⊢
  first
    | exact cndi (SO t) a0 (cndi (SO t) a1 a2)
    | exact cndi (SO t) (cndi (SO t) a0 a1) (cndi (SO t) (cndi (SO t) a0 a1) a2)
theorem steps_ok {W : Nat → Int32} {m : Nat → Nat → Int32} {t : Nat} (h : KG W t) (ht : t < 4) : SO t (q_steps m W t) := by
  have aD := does_ok (m := zm2 m 137 5 (Int32.ofNat 0)) h ht (Nat.lt_succ_of_le (h.deed ht).2.1.2.2) (h.deed ht).2.2.2.1 (h.deed ht).2.2.2.2
  unfold q_steps
  generalize q_does (zm2 m 137 5 (Int32.ofNat 0)) W t (nv W (376 + 103 * t + (55 + 2 * nv W (376 + 103 * t + 0)))) (nv W (376 + 103 * t + (55 + 2 * nv W (376 + 103 * t + 0) + 1))) = c at aD ⊢
  refine cndi (SO t) ⟨aD.1.1.stepsE t _, stepsE_12⟩ ?_
  exact stepsD_ok (aD.1.adv ht) ht
end
section
theorem zcgt {a b : Nat} (ha : a < 2147483648) (hb : b < 2147483648) (h : b < a) : zc2 .gt (Int32.ofNat a) (Int32.ofNat b) = true := by
  apply decide_eq_true
  rw [Int32.lt_iff_toInt_lt, zoN ha, zoN hb]
  omega
theorem zcgt_f {a b : Nat} (ha : a < 2147483648) (hb : b < 2147483648) (h : a ≤ b) : zc2 .gt (Int32.ofNat a) (Int32.ofNat b) = false := by
  apply decide_eq_false
  rw [Int32.lt_iff_toInt_lt, zoN ha, zoN hb]
  omega
theorem zon0 {a : Nat} (h1 : 1 ≤ a) (h : a < 2147483648) : ¬ Int32.ofNat a = 0 := by
  intro e
  have h2 := congrArg Int32.toInt e
  rw [zoN h, Int32.toInt_zero] at h2
  omega
theorem zdivN {a b : Nat} (ha : a < 2147483648) (hb : b < 2147483648) : Int32.ofNat a / Int32.ofNat b = Int32.ofNat (a / b) := by
  exact (Int32.ofNat_div (by omega) (by omega)).symm
theorem zremN {a b : Nat} (ha : a < 2147483648) (hb : b < 2147483648) : Int32.ofNat a - Int32.ofNat a / Int32.ofNat b * Int32.ofNat b = Int32.ofNat (a % b) := by
  rw [zdivN ha hb, ← Int32.ofNat_mul]
  have e : a = a % b + a / b * b := by rw [Nat.mul_comm]; exact (Nat.mod_add_div a b).symm
  have e2 : Int32.ofNat a = Int32.ofNat (a % b) + Int32.ofNat (a / b * b) := by
    rw [← Int32.ofNat_add, ← e]
  rw [e2, Int32.add_sub_cancel]
/-- whose turn it was, and one more -/
noncomputable def lt1 (W : Nat → Int32) : Nat := (W 12 + Int32.ofNat 1).toNatClampNeg
noncomputable def LT (W : Nat → Int32) : Prop := W 12 + Int32.ofNat 1 = Int32.ofNat (lt1 W) ∧ lt1 W ≤ 4
theorem nx_eq {W : Nat → Int32} {k N : Nat} (h : LT W) (hk : 1 ≤ k) (hk4 : k ≤ 4) (hN : N ≤ 4) : (W 12 + Int32.ofNat k) - (W 12 + Int32.ofNat k) / Int32.ofNat N * Int32.ofNat N = Int32.ofNat ((lt1 W + (k - 1)) % N) := by
  have e : W 12 + Int32.ofNat k = Int32.ofNat (lt1 W + (k - 1)) := by
    have e1 : k = 1 + (k - 1) := by omega
    have e2 : Int32.ofNat k = Int32.ofNat 1 + Int32.ofNat (k - 1) := by rw [← Int32.ofNat_add, ← e1]
    rw [e2, ← Int32.add_assoc, h.1, ← Int32.ofNat_add]
  have := h.2
  rw [e, zremN (by omega) (by omega)]
noncomputable def l_doneOnes (W : Nat → Int32) : Nat → Int32 → Nat → Int32
  | 0, s, k => s
  | n + 1, s, k => (bif zc1 .eq (q_isDone W k) then (l_doneOnes W n ((s ||| (Int32.ofNat 0))) ((k + 1))) else (l_doneOnes W n ((s ||| ((Int32.ofNat 1) <<< ((Int32.ofNat k) &&& 31)))) ((k + 1))))
theorem w_doneOnes {σ : Nat → Nat × (Nat → Int32)} {yy : (Nat → Nat → Int64) × Bool × Nat × Nat} {m : Nat → Nat → Int32} {W : Nat → Int32} {d : Nat} (hd : 4 ≤ d + 1) (hN : W 9 = Int32.ofNat (nv W 9)) (hN4 : nv W 9 ≤ 4) : ∀ (n : Nat) (s : Int32) (k : Nat), k + n = nv W 9 → zEv σ (d + 1) 1836 4 [some (.ref 137), some (.int s), some (.int (Int32.ofNat k))] [] (zS1, zrow m 138 W, yy) (.inl (some (.int (l_doneOnes W n s k)))) (zS1, zrow m 138 W, yy) := by
  intro n
  induction n with
  | zero =>
    intro s k hk
    refine zeP rfl rfl ?_
    refine zeP rfl rfl ?_
    refine zeCF rfl rfl rfl rfl rfl rfl (c_threads (m := m) (W := W)  ) (by omega) ?_
    dsimp only [Option.toList, List.cons_append, List.nil_append]
    rw [show q_threads W = Int32.ofNat (nv W 9) from hN]
    refine zeT2 rfl rfl (zcge (by omega) (by omega) (by omega)) ?_
    refine zeP rfl rfl ?_
    exact zeRe rfl rfl rfl rfl (by rfl) (by rfl)
  | succ n ih =>
    intro s k hk
    refine zeP rfl rfl ?_
    refine zeP rfl rfl ?_
    refine zeCF rfl rfl rfl rfl rfl rfl (c_threads (m := m) (W := W)  ) (by omega) ?_
    dsimp only [Option.toList, List.cons_append, List.nil_append]
    rw [show q_threads W = Int32.ofNat (nv W 9) from hN]
    refine zeF2 rfl rfl (zcge_f (by omega) (by omega) (by omega)) ?_
    refine zeP rfl rfl ?_
    refine zeP rfl rfl ?_
    refine zeP rfl rfl ?_
    refine zeCF rfl rfl rfl rfl rfl rfl (c_isDone (m := m) (W := W) (t := k) (by first | assumption | omega)) (by omega) ?_
    dsimp only [Option.toList, List.cons_append, List.nil_append]
    refine zeB1 rfl rfl (fun h1 => ?_) (fun h1 => ?_)
    · refine zeKn (c := 0) rfl rfl rfl ?_
      refine zeP rfl rfl ?_
      refine zeP rfl rfl ?_
      refine zeInc rfl rfl ?_
      refine zeP rfl rfl ?_
      simp only [l_doneOnes, h1, cond_true, cond_false]
      exact ih ((s ||| (Int32.ofNat 0))) ((k + 1))   (by omega) 
    · refine zeKn (c := 1) rfl rfl rfl ?_
      refine zeP rfl rfl ?_
      refine zeP rfl rfl ?_
      refine zeP rfl rfl ?_
      refine zeP rfl rfl ?_
      refine zeP rfl rfl ?_
      refine zeInc rfl rfl ?_
      refine zeP rfl rfl ?_
      simp only [l_doneOnes, h1, cond_true, cond_false]
      exact ih ((s ||| ((Int32.ofNat 1) <<< ((Int32.ofNat k) &&& 31)))) ((k + 1))   (by omega) 
noncomputable def q_doneOnes (W : Nat → Int32) : Int32 := (l_doneOnes W ((nv W 9)) ((Int32.ofNat 0)) 0)
theorem p_doneOnes {σ : Nat → Nat × (Nat → Int32)} {yy : (Nat → Nat → Int64) × Bool × Nat × Nat} {m : Nat → Nat → Int32} {W : Nat → Int32} {d : Nat} (hd : 4 ≤ d + 1) (hN : W 9 = Int32.ofNat (nv W 9)) (hN4 : nv W 9 ≤ 4) : zEv σ (d + 1) 1836 0 [some (.ref 137), none, none] [] (zS1, zrow m 138 W, yy) (.inl (some (.int (q_doneOnes W)))) (zS1, zrow m 138 W, yy) := by
  refine zeKn (c := 0) rfl rfl rfl ?_
  refine zeP rfl rfl ?_
  refine zeKn (c := 0) rfl rfl rfl ?_
  refine zeP rfl rfl ?_
  simp only [q_doneOnes, cond_true, cond_false]
  exact w_doneOnes  (W := W) (m := m) (by omega) (by first | assumption | omega) (by first | assumption | omega) ((nv W 9)) ((Int32.ofNat 0)) (0)   (by omega) 
theorem c_doneOnes {σ : Nat → Nat × (Nat → Int32)} {yy : (Nat → Nat → Int64) × Bool × Nat × Nat} {m : Nat → Nat → Int32} {W : Nat → Int32} (hN : W 9 = Int32.ofNat (nv W 9)) (hN4 : nv W 9 ≤ 4) : zF σ 4 1836 [.ref 137] (zS1, zrow m 138 W, yy) (.inl (some (.int (q_doneOnes W)))) (zS1, zrow m 138 W, yy) := by
  intro d hd
  obtain ⟨d, rfl⟩ : ∃ k, d = k + 1 := ⟨d - 1, by omega⟩
  exact p_doneOnes hd hN hN4
noncomputable def q_areAllDone (W : Nat → Int32) : Int32 := (bif zc2 .ne (q_doneOnes W) (((Int32.ofNat 1) <<< ((q_threads W) &&& 31)) - (Int32.ofNat 1)) then (Int32.ofNat 0) else (Int32.ofNat 1))
theorem p_areAllDone {σ : Nat → Nat × (Nat → Int32)} {yy : (Nat → Nat → Int64) × Bool × Nat × Nat} {m : Nat → Nat → Int32} {W : Nat → Int32} {d : Nat} (hd : 5 ≤ d + 1) (hN : W 9 = Int32.ofNat (nv W 9)) (hN4 : nv W 9 ≤ 4) : zEv σ (d + 1) 1837 0 [some (.ref 137)] [] (zS1, zrow m 138 W, yy) (.inl (some (.int (q_areAllDone W)))) (zS1, zrow m 138 W, yy) := by
  refine zeP rfl rfl ?_
  refine zeCF rfl rfl rfl rfl rfl rfl (c_doneOnes (m := m) (W := W)  (by first | assumption | omega) (by first | assumption | omega)) (by omega) ?_
  dsimp only [Option.toList, List.cons_append, List.nil_append]
  refine zeKn (c := 1) rfl rfl rfl ?_
  refine zeP rfl rfl ?_
  refine zeCF rfl rfl rfl rfl rfl rfl (c_threads (m := m) (W := W)  ) (by omega) ?_
  dsimp only [Option.toList, List.cons_append, List.nil_append]
  refine zeP rfl rfl ?_
  refine zeKn (c := 1) rfl rfl rfl ?_
  refine zeP rfl rfl ?_
  refine zeB2 rfl rfl (fun h1 => ?_) (fun h1 => ?_)
  · refine zeKn (c := 0) rfl rfl rfl ?_
    exact zeRe rfl rfl rfl rfl (by simp only [q_areAllDone, h1, cond_true, cond_false] <;> rfl) (by simp only [q_areAllDone, h1, cond_true, cond_false] <;> rfl)
  · refine zeKn (c := 1) rfl rfl rfl ?_
    refine zeP rfl rfl ?_
    exact zeRe rfl rfl rfl rfl (by simp only [q_areAllDone, h1, cond_true, cond_false] <;> rfl) (by simp only [q_areAllDone, h1, cond_true, cond_false] <;> rfl)
theorem c_areAllDone {σ : Nat → Nat × (Nat → Int32)} {yy : (Nat → Nat → Int64) × Bool × Nat × Nat} {m : Nat → Nat → Int32} {W : Nat → Int32} (hN : W 9 = Int32.ofNat (nv W 9)) (hN4 : nv W 9 ≤ 4) : zF σ 5 1837 [.ref 137] (zS1, zrow m 138 W, yy) (.inl (some (.int (q_areAllDone W)))) (zS1, zrow m 138 W, yy) := by
  intro d hd
  obtain ⟨d, rfl⟩ : ∃ k, d = k + 1 := ⟨d - 1, by omega⟩
  exact p_areAllDone hd hN hN4
noncomputable def l_nextOne (W : Nat → Int32) : Nat → Nat → Int32
  | 0, k => (-1)
  | n + 1, k => (bif zc1 .ne (q_isDone W (((lt1 W + (k - 1)) % nv W 9))) then (l_nextOne W n ((k + 1))) else (Int32.ofNat ((lt1 W + (k - 1)) % nv W 9)))
theorem w_nextOne {σ : Nat → Nat × (Nat → Int32)} {yy : (Nat → Nat → Int64) × Bool × Nat × Nat} {m : Nat → Nat → Int32} {W : Nat → Int32} {d : Nat} (hd : 4 ≤ d + 1) (hN : W 9 = Int32.ofNat (nv W 9)) (hN4 : nv W 9 ≤ 4) (hLT : LT W) : ∀ (n : Nat) (k : Nat) (x2 : Option Value), k + n = nv W 9 + 1 → 1 ≤ k → zEv σ (d + 1) 1838 2 [some (.ref 137), some (.int (Int32.ofNat k)), x2] [] (zS1, zrow m 138 W, yy) (.inl (some (.int (l_nextOne W n k)))) (zS1, zrow m 138 W, yy) := by
  intro n
  induction n with
  | zero =>
    intro k x2 hk hk1
    refine zeP rfl rfl ?_
    refine zeP rfl rfl ?_
    refine zeCF rfl rfl rfl rfl rfl rfl (c_threads (m := m) (W := W)  ) (by omega) ?_
    dsimp only [Option.toList, List.cons_append, List.nil_append]
    rw [show q_threads W = Int32.ofNat (nv W 9) from hN]
    refine zeT2 rfl rfl (zcgt (by omega) (by omega) (by omega)) ?_
    refine zeK (v := -1) rfl rfl rfl ?_
    exact zeRe rfl rfl rfl rfl (by rfl) (by rfl)
  | succ n ih =>
    intro k x2 hk hk1
    refine zeP rfl rfl ?_
    refine zeP rfl rfl ?_
    refine zeCF rfl rfl rfl rfl rfl rfl (c_threads (m := m) (W := W)  ) (by omega) ?_
    dsimp only [Option.toList, List.cons_append, List.nil_append]
    rw [show q_threads W = Int32.ofNat (nv W 9) from hN]
    refine zeF2 rfl rfl (zcgt_f (by omega) (by omega) (by omega)) ?_
    refine zeP rfl rfl ?_
    refine zeGR rfl rfl zS137 rfl rfl ?_
    refine zeKn (c := 12) rfl rfl rfl ?_
    refine zeWL (k := 12) rfl (by omega) ?_
    refine zeP rfl rfl ?_
    refine zeP rfl rfl ?_
    refine zeP rfl rfl ?_
    refine zeCF rfl rfl rfl rfl rfl rfl (c_threads (m := m) (W := W)  ) (by omega) ?_
    dsimp only [Option.toList, List.cons_append, List.nil_append]
    rw [show q_threads W = Int32.ofNat (nv W 9) from hN]
    refine zeRem rfl (zon0 (by omega) (by omega)) ?_
    rw [nx_eq hLT hk1 (by omega) hN4]
    refine zeP rfl rfl ?_
    refine zeP rfl rfl ?_
    refine zeP rfl rfl ?_
    refine zeCF rfl rfl rfl rfl rfl rfl (c_isDone (m := m) (W := W) (t := ((lt1 W + (k - 1)) % nv W 9)) (Nat.lt_of_lt_of_le (Nat.mod_lt _ (by omega)) hN4)) (by omega) ?_
    dsimp only [Option.toList, List.cons_append, List.nil_append]
    refine zeB1 rfl rfl (fun h1 => ?_) (fun h1 => ?_)
    · refine zeInc rfl rfl ?_
      refine zeP rfl rfl ?_
      simp only [l_nextOne, h1, cond_true, cond_false]
      exact ih ((k + 1)) (some (.int (Int32.ofNat ((lt1 W + (k - 1)) % nv W 9))))   (by omega) (by first | assumption | omega)
    · refine zeP rfl rfl ?_
      exact zeRe rfl rfl rfl rfl (by simp only [l_nextOne, h1, cond_true, cond_false] <;> rfl) (by simp only [l_nextOne, h1, cond_true, cond_false] <;> rfl)
noncomputable def q_nextOne (W : Nat → Int32) : Int32 := (l_nextOne W ((nv W 9)) 1)
theorem p_nextOne {σ : Nat → Nat × (Nat → Int32)} {yy : (Nat → Nat → Int64) × Bool × Nat × Nat} {m : Nat → Nat → Int32} {W : Nat → Int32} {d : Nat} (hd : 4 ≤ d + 1) (hN : W 9 = Int32.ofNat (nv W 9)) (hN4 : nv W 9 ≤ 4) (hLT : LT W) : zEv σ (d + 1) 1838 0 [some (.ref 137), none, none] [] (zS1, zrow m 138 W, yy) (.inl (some (.int (q_nextOne W)))) (zS1, zrow m 138 W, yy) := by
  refine zeKn (c := 1) rfl rfl rfl ?_
  refine zeP rfl rfl ?_
  simp only [q_nextOne, cond_true, cond_false]
  exact w_nextOne  (W := W) (m := m) (by omega) hN hN4 hLT ((nv W 9)) (1) (none)   (by omega) (by omega)
theorem c_nextOne {σ : Nat → Nat × (Nat → Int32)} {yy : (Nat → Nat → Int64) × Bool × Nat × Nat} {m : Nat → Nat → Int32} {W : Nat → Int32} (hN : W 9 = Int32.ofNat (nv W 9)) (hN4 : nv W 9 ≤ 4) (hLT : LT W) : zF σ 4 1838 [.ref 137] (zS1, zrow m 138 W, yy) (.inl (some (.int (q_nextOne W)))) (zS1, zrow m 138 W, yy) := by
  intro d hd
  obtain ⟨d, rfl⟩ : ∃ k, d = k + 1 := ⟨d - 1, by omega⟩
  exact p_nextOne hd hN hN4 hLT
noncomputable def q_drawOf (W : Nat → Int32) (b : Int32) : Int32 × (Nat → Int32) := ((((((((upd W 13 (((W 13) * (Int32.ofNat 1103515245)) + (Int32.ofNat 12345)))) 13)).toUInt32 >>> (((Int32.ofNat 16)).toUInt32 &&& Int32.toUInt32 31)).toInt32 &&& (Int32.ofNat 32767)) - ((((((upd W 13 (((W 13) * (Int32.ofNat 1103515245)) + (Int32.ofNat 12345)))) 13)).toUInt32 >>> (((Int32.ofNat 16)).toUInt32 &&& Int32.toUInt32 31)).toInt32 &&& (Int32.ofNat 32767)) / b * b), (upd W 13 (((W 13) * (Int32.ofNat 1103515245)) + (Int32.ofNat 12345))))
theorem p_drawOf {σ : Nat → Nat × (Nat → Int32)} {yy : (Nat → Nat → Int64) × Bool × Nat × Nat} {m : Nat → Nat → Int32} {W : Nat → Int32} {b : Int32} {d : Nat} (hd : 1 ≤ d + 1) (hb : ¬ b = 0) : zEv σ (d + 1) 1839 0 [some (.ref 137), some (.int b)] [] (zS1, zrow m 138 W, yy) (.inl (some (.int (q_drawOf W b).1))) (zS1, zrow m 138 ((q_drawOf W b).2), yy) := by
  refine zeP rfl rfl ?_
  refine zeGR rfl rfl zS137 rfl rfl ?_
  refine zeKn (c := 13) rfl rfl rfl ?_
  refine zeP rfl rfl ?_
  refine zeGR rfl rfl zS137 rfl rfl ?_
  refine zeKn (c := 13) rfl rfl rfl ?_
  refine zeWL (k := 13) rfl (by omega) ?_
  refine zeKn (c := 1103515245) rfl rfl rfl ?_
  refine zeP rfl rfl ?_
  refine zeKn (c := 12345) rfl rfl rfl ?_
  refine zeP rfl rfl ?_
  refine zeWS (k := 13) rfl (by omega) ?_
  refine zeP rfl rfl ?_
  refine zeGR rfl rfl zS137 rfl rfl ?_
  refine zeKn (c := 13) rfl rfl rfl ?_
  refine zeWL (k := 13) rfl (by omega) ?_
  refine zeKn (c := 16) rfl rfl rfl ?_
  refine zeP rfl rfl ?_
  refine zeKn (c := 32767) rfl rfl rfl ?_
  refine zeP rfl rfl ?_
  refine zeP rfl rfl ?_
  refine zeRem rfl hb ?_
  exact zeRe rfl rfl rfl rfl (by rfl) (by rfl)
theorem c_drawOf {σ : Nat → Nat × (Nat → Int32)} {yy : (Nat → Nat → Int64) × Bool × Nat × Nat} {m : Nat → Nat → Int32} {W : Nat → Int32} {b : Int32} (hb : ¬ b = 0) : zF σ 1 1839 [.ref 137, .int b] (zS1, zrow m 138 W, yy) (.inl (some (.int (q_drawOf W b).1))) (zS1, zrow m 138 ((q_drawOf W b).2), yy) := by
  intro d hd
  obtain ⟨d, rfl⟩ : ∃ k, d = k + 1 := ⟨d - 1, by omega⟩
  exact p_drawOf hd hb
noncomputable def l_drawnOne (W : Nat → Int32) (n9 : Nat) : Nat → Int32 → Nat → Int32
  | 0, a, k => (-1)
  | n + 1, a, k => (bif zc1 .eq (q_isDone W k) then (bif zc1 .ne a then (l_drawnOne W n9 n ((a + Int32.ofInt (-1))) ((k + 1))) else (Int32.ofNat k)) else (l_drawnOne W n9 n a ((k + 1))))
theorem w_drawnOne {σ : Nat → Nat × (Nat → Int32)} {yy : (Nat → Nat → Int64) × Bool × Nat × Nat} {m : Nat → Nat → Int32} {W : Nat → Int32} {n9 : Nat} {d : Nat} (hd : 4 ≤ d + 1) (hN : W 9 = Int32.ofNat n9) (hN4 : n9 ≤ 4) : ∀ (n : Nat) (a : Int32) (k : Nat), k + n = n9 → zEv σ (d + 1) 1840 19 [some (.ref 137), some (.int a), some (.int (Int32.ofNat k))] [] (zS1, zrow m 138 W, yy) (.inl (some (.int (l_drawnOne W n9 n a k)))) (zS1, zrow m 138 W, yy) := by
  intro n
  induction n with
  | zero =>
    intro a k hk
    refine zeP rfl rfl ?_
    refine zeP rfl rfl ?_
    refine zeCF rfl rfl rfl rfl rfl rfl (c_threads (m := m) (W := W)  ) (by omega) ?_
    dsimp only [Option.toList, List.cons_append, List.nil_append]
    rw [show q_threads W = Int32.ofNat n9 from hN]
    refine zeT2 rfl rfl (zcge (by omega) (by omega) (by omega)) ?_
    refine zeK (v := -1) rfl rfl rfl ?_
    exact zeRe rfl rfl rfl rfl (by rfl) (by rfl)
  | succ n ih =>
    intro a k hk
    refine zeP rfl rfl ?_
    refine zeP rfl rfl ?_
    refine zeCF rfl rfl rfl rfl rfl rfl (c_threads (m := m) (W := W)  ) (by omega) ?_
    dsimp only [Option.toList, List.cons_append, List.nil_append]
    rw [show q_threads W = Int32.ofNat n9 from hN]
    refine zeF2 rfl rfl (zcge_f (by omega) (by omega) (by omega)) ?_
    refine zeP rfl rfl ?_
    refine zeP rfl rfl ?_
    refine zeCF rfl rfl rfl rfl rfl rfl (c_isDone (m := m) (W := W) (t := k) (by first | assumption | omega)) (by omega) ?_
    dsimp only [Option.toList, List.cons_append, List.nil_append]
    refine zeB1 rfl rfl (fun h1 => ?_) (fun h1 => ?_)
    · refine zeP rfl rfl ?_
      refine zeB1 rfl rfl (fun h2 => ?_) (fun h2 => ?_)
      · refine zeP rfl rfl ?_
        refine zeInc rfl rfl ?_
        refine zeP rfl rfl ?_
        simp only [l_drawnOne, h1, h2, cond_true, cond_false]
        exact ih ((a + Int32.ofInt (-1))) ((k + 1))   (by omega) 
      · refine zeP rfl rfl ?_
        exact zeRe rfl rfl rfl rfl (by simp only [l_drawnOne, h1, h2, cond_true, cond_false] <;> rfl) (by simp only [l_drawnOne, h1, h2, cond_true, cond_false] <;> rfl)
    · refine zeP rfl rfl ?_
      refine zeInc rfl rfl ?_
      refine zeP rfl rfl ?_
      simp only [l_drawnOne, h1, cond_true, cond_false]
      exact ih (a) ((k + 1))   (by omega) 
noncomputable def q_drawnOne (W : Nat → Int32) : Int32 × (Nat → Int32) := ((l_drawnOne ((q_drawOf W (((q_threads W) - (q_bits ((q_doneOnes W)))))).2) ((nv W 9)) ((nv W 9)) ((q_drawOf W (((q_threads W) - (q_bits ((q_doneOnes W)))))).1) 0), (q_drawOf W (((q_threads W) - (q_bits ((q_doneOnes W)))))).2)
theorem p_drawnOne {σ : Nat → Nat × (Nat → Int32)} {yy : (Nat → Nat → Int64) × Bool × Nat × Nat} {m : Nat → Nat → Int32} {W : Nat → Int32} {d : Nat} (hd : 5 ≤ d + 1) (hN : W 9 = Int32.ofNat (nv W 9)) (hN4 : nv W 9 ≤ 4) (hD : ¬ (q_threads W - q_bits (q_doneOnes W)) = 0) : zEv σ (d + 1) 1840 0 [some (.ref 137), none, none] [] (zS1, zrow m 138 W, yy) (.inl (some (.int (q_drawnOne W).1))) (zS1, zrow m 138 ((q_drawnOne W).2), yy) := by
  refine zeP rfl rfl ?_
  refine zeP rfl rfl ?_
  refine zeCF rfl rfl rfl rfl rfl rfl (c_threads (m := m) (W := W)  ) (by omega) ?_
  dsimp only [Option.toList, List.cons_append, List.nil_append]
  refine zeP rfl rfl ?_
  refine zeCF rfl rfl rfl rfl rfl rfl (c_doneOnes (m := m) (W := W)  hN hN4) (by omega) ?_
  dsimp only [Option.toList, List.cons_append, List.nil_append]
  refine zeCF rfl rfl rfl rfl rfl rfl (c_bits (m := m) (W := W) (s := (q_doneOnes W)) ) (by omega) ?_
  dsimp only [Option.toList, List.cons_append, List.nil_append]
  refine zeP rfl rfl ?_
  refine zeCF rfl rfl rfl rfl rfl rfl (c_drawOf (m := m) (W := W) (b := ((q_threads W) - (q_bits ((q_doneOnes W))))) hD) (by omega) ?_
  dsimp only [Option.toList, List.cons_append, List.nil_append]
  refine zeP rfl rfl ?_
  refine zeKn (c := 0) rfl rfl rfl ?_
  refine zeP rfl rfl ?_
  simp only [q_drawnOne, cond_true, cond_false]
  exact w_drawnOne (n9 := (nv W 9)) (W := (q_drawOf W (((q_threads W) - (q_bits ((q_doneOnes W)))))).2) (m := m) (by omega) (by simp (disch := omega) only [q_drawOf, upd_ne]; exact hN) hN4 ((nv W 9)) ((q_drawOf W (((q_threads W) - (q_bits ((q_doneOnes W)))))).1) (0)   (by omega) 
theorem c_drawnOne {σ : Nat → Nat × (Nat → Int32)} {yy : (Nat → Nat → Int64) × Bool × Nat × Nat} {m : Nat → Nat → Int32} {W : Nat → Int32} (hN : W 9 = Int32.ofNat (nv W 9)) (hN4 : nv W 9 ≤ 4) (hD : ¬ (q_threads W - q_bits (q_doneOnes W)) = 0) : zF σ 5 1840 [.ref 137] (zS1, zrow m 138 W, yy) (.inl (some (.int (q_drawnOne W).1))) (zS1, zrow m 138 ((q_drawnOne W).2), yy) := by
  intro d hd
  obtain ⟨d, rfl⟩ : ∃ k, d = k + 1 := ⟨d - 1, by omega⟩
  exact p_drawnOne hd hN hN4 hD
end
section
/-! who is done, whose turn it is -/
noncomputable def dn (W : Nat → Int32) (u : Nat) : Bool := !(zc2 .ne (q_of W u 0) (q_of W u 22))
theorem isDone_dn (W : Nat → Int32) (u : Nat) : q_isDone W u = bif dn W u then Int32.ofNat 1 else Int32.ofNat 0 := by
  unfold q_isDone dn
  cases zc2 .ne (q_of W u 0) (q_of W u 22) <;> rfl
/-- how many are not done, from k on -/
noncomputable def ndc (W : Nat → Int32) : Nat → Nat → Nat
  | 0, _ => 0
  | n + 1, k => (bif dn W k then 0 else 1) + ndc W n (k + 1)
theorem done_fin {W : Nat → Int32} (hN : W 9 = Int32.ofNat (nv W 9)) (hN4 : nv W 9 ≤ 4) : q_bits (q_doneOnes W) = Int32.ofNat (nv W 9 - ndc W (nv W 9) 0) ∧ q_areAllDone W = bif Nat.beq (ndc W (nv W 9) 0) 0 then Int32.ofNat 1 else Int32.ofNat 0 := by
  have h9 : q_threads W = Int32.ofNat (nv W 9) := hN
  unfold q_areAllDone q_doneOnes
  rw [h9]
  generalize nv W 9 = N at hN4 ⊢
  match N, hN4 with
  | 0, _ =>
    simp only [l_doneOnes, ndc]
    decide +kernel
  | 1, _ =>
    simp only [l_doneOnes, ndc, isDone_dn]
    generalize dn W 0 = f0
    revert f0
    decide +kernel
  | 2, _ =>
    simp only [l_doneOnes, ndc, isDone_dn]
    generalize dn W 0 = f0
    generalize dn W (0 + 1) = f1
    revert f0 f1
    decide +kernel
  | 3, _ =>
    simp only [l_doneOnes, ndc, isDone_dn]
    generalize dn W 0 = f0
    generalize dn W (0 + 1) = f1
    generalize dn W (0 + 1 + 1) = f2
    revert f0 f1 f2
    decide +kernel
  | 4, _ =>
    simp only [l_doneOnes, ndc, isDone_dn]
    generalize dn W 0 = f0
    generalize dn W (0 + 1) = f1
    generalize dn W (0 + 1 + 1) = f2
    generalize dn W (0 + 1 + 1 + 1) = f3
    revert f0 f1 f2 f3
    decide +kernel
theorem ndc_le (W : Nat → Int32) : ∀ n k, ndc W n k ≤ n := by
  intro n
  induction n with
  | zero => intro k; exact Nat.le_refl _
  | succ n ih =>
    intro k
    rw [ndc]
    have := ih (k + 1)
    cases dn W k <;> simp only [cond_true, cond_false] <;> omega
theorem ndc_ex (W : Nat → Int32) : ∀ n k, ¬ ndc W n k = 0 → ∃ u, k ≤ u ∧ u < k + n ∧ dn W u = false := by
  intro n
  induction n with
  | zero => intro k h; exact absurd rfl h
  | succ n ih =>
    intro k h
    cases hd : dn W k with
    | false => exact ⟨k, Nat.le_refl _, by omega, hd⟩
    | true =>
      rw [ndc, hd, cond_true, Nat.zero_add] at h
      obtain ⟨u, h1, h2, h3⟩ := ih _ h
      exact ⟨u, by omega, by omega, h3⟩
theorem dn_AL {W : Nat → Int32} (h : WG W) {u : Nat} (hu : u < 4) (hd : dn W u = false) : AL W u := by
  obtain ⟨-, -, -, a4, a5, -, -, -⟩ := h.2 u hu
  unfold dn at hd
  have h1 : ¬ W (376 + 103 * u + 0) = W (376 + 103 * u + 22) := by
    cases hb : zc2 .ne (q_of W u 0) (q_of W u 22) with
    | false => rw [hb] at hd; cases hd
    | true => exact of_decide_eq_true hb
  unfold AL
  apply Nat.lt_of_le_of_ne a5.2.2
  intro e
  exact h1 (by rw [a5.1, a4.1, e])
theorem nx_cov : ∀ N, N ≤ 4 → ∀ L, L ≤ 4 → ∀ u, u < N → ∃ k, k ≤ 4 ∧ (1 ≤ k ∧ k ≤ N ∧ (L + (k - 1)) % N = u) := by decide +kernel
theorem nextL {W : Nat → Int32} {N : Nat} (hN : nv W 9 = N) (hN4 : N ≤ 4) : ∀ n k, 1 ≤ k → k + n = N + 1 → (∃ q, k ≤ q ∧ q ≤ N ∧ dn W ((lt1 W + (q - 1)) % N) = false) → ∃ v, v < N ∧ dn W v = false ∧ l_nextOne W n k = Int32.ofNat v := by
  intro n
  induction n with
  | zero => intro k h1 hk ⟨q, a, b, _⟩; omega
  | succ n ih =>
    intro k h1 hk ⟨q, a, b, c⟩
    rw [l_nextOne, isDone_dn, hN]
    cases hd : dn W ((lt1 W + (k - 1)) % N) with
    | false => exact ⟨_, Nat.mod_lt _ (by omega), hd, rfl⟩
    | true =>
      have hq : q ≠ k := fun e => by
        rw [e, hd] at c
        cases c
      have e1 : zc1 .ne (bif true then Int32.ofNat 1 else Int32.ofNat 0) = true := by decide
      rw [e1, cond_true]
      exact ih (k + 1) (by omega) (by omega) ⟨q, by omega, b, c⟩
/-- not all are done: the next one -/
theorem next_ok {W : Nat → Int32} (h : WG W) (hL : LT W) (hc : zc1 .ne (q_areAllDone W) = false) : ∃ v, v < nv W 9 ∧ AL W v ∧ q_nextOne W = Int32.ofNat v := by
  have h0 : ¬ ndc W (nv W 9) 0 = 0 := by
    intro e
    rw [(done_fin h.N h.N4).2, e] at hc
    exact absurd hc (by decide)
  obtain ⟨u, -, h2, h3⟩ := ndc_ex W _ _ h0
  obtain ⟨k, -, k1, k2, k3⟩ := nx_cov (nv W 9) h.N4 (lt1 W) hL.2 u (by omega)
  obtain ⟨v, v1, v2, v3⟩ := nextL rfl h.N4 (nv W 9) 1 (by omega) (by omega) ⟨k, k1, k2, by rw [k3]; exact h3⟩
  have := h.N4
  exact ⟨v, v1, dn_AL h (by omega) v2, v3⟩
theorem zsub1 {A : Nat} (h : 1 ≤ A) : Int32.ofNat A + Int32.ofInt (-1) = Int32.ofNat (A - 1) := by
  have e : A = A - 1 + 1 := by omega
  rw [e, Int32.ofNat_add, Nat.add_sub_cancel, Int32.add_assoc]
  have e2 : Int32.ofNat 1 + Int32.ofInt (-1) = 0 := by decide
  rw [e2, Int32.add_zero]
theorem drawL {W : Nat → Int32} {n9 : Nat} : ∀ n k A, A < 2147483648 → A < ndc W n k → ∃ v, k ≤ v ∧ v < k + n ∧ dn W v = false ∧ l_drawnOne W n9 n (Int32.ofNat A) k = Int32.ofNat v := by
  intro n
  induction n with
  | zero => intro k A _ h; exact absurd h (Nat.not_lt_zero _)
  | succ n ih =>
    intro k A hA h
    rw [ndc] at h
    rw [l_drawnOne, isDone_dn]
    cases hd : dn W k with
    | true =>
      rw [hd, cond_true, Nat.zero_add] at h
      have e1 : zc1 .eq (bif true then Int32.ofNat 1 else Int32.ofNat 0) = false := by decide
      rw [e1, cond_false]
      obtain ⟨v, a, b, c, e⟩ := ih (k + 1) A hA h
      exact ⟨v, by omega, by omega, c, e⟩
    | false =>
      rw [hd, cond_false] at h
      have e1 : zc1 .eq (bif false then Int32.ofNat 1 else Int32.ofNat 0) = true := by decide
      rw [e1, cond_true]
      by_cases h0 : A = 0
      · subst h0
        have e2 : zc1 .ne (Int32.ofNat 0) = false := by decide
        rw [e2, cond_false]
        exact ⟨k, Nat.le_refl _, by omega, hd, rfl⟩
      · have e2 : zc1 .ne (Int32.ofNat A) = true := by
          apply decide_eq_true
          exact zon0 (by omega) hA
        rw [e2, cond_true, zsub1 (by omega)]
        obtain ⟨v, a, b, c, e⟩ := ih (k + 1) (A - 1) (by omega) (by omega)
        exact ⟨v, by omega, by omega, c, e⟩
end
section
/-! draws, and going on -/
theorem zand15 (x : Int32) : ∃ k : Nat, k ≤ 32767 ∧ x &&& Int32.ofNat 32767 = Int32.ofNat k := by
  have h : (x &&& Int32.ofNat 32767).toBitVec.toNat ≤ 32767 := by
    rw [Int32.toBitVec_and, BitVec.toNat_and]
    exact Nat.and_le_right
  refine ⟨_, h, ?_⟩
  apply Int32.toInt_inj.mp
  rw [zoN (by omega)]
  exact BitVec.toInt_eq_toNat_of_lt (by omega)
theorem draw_b {W : Nat → Int32} (hN : W 9 = Int32.ofNat (nv W 9)) (hN4 : nv W 9 ≤ 4) : q_threads W - q_bits (q_doneOnes W) = Int32.ofNat (ndc W (nv W 9) 0) := by
  have h9 : q_threads W = Int32.ofNat (nv W 9) := hN
  have hc := ndc_le W (nv W 9) 0
  rw [(done_fin hN hN4).1, h9]
  have e : nv W 9 = ndc W (nv W 9) 0 + (nv W 9 - ndc W (nv W 9) 0) := by omega
  have e2 : Int32.ofNat (nv W 9) = Int32.ofNat (ndc W (nv W 9) 0) + Int32.ofNat (nv W 9 - ndc W (nv W 9) 0) := by
    rw [← Int32.ofNat_add, ← e]
  rw [e2, Int32.add_sub_cancel]
theorem left0 {W : Nat → Int32} (h : WG W) (hc : zc1 .ne (q_areAllDone W) = false) : 1 ≤ ndc W (nv W 9) 0 := by
  apply Nat.succ_le_of_lt
  apply Nat.pos_of_ne_zero
  intro e
  rw [(done_fin h.N h.N4).2, e] at hc
  exact absurd hc (by decide)
theorem draw_d {W : Nat → Int32} (h : WG W) (hc : zc1 .ne (q_areAllDone W) = false) : ¬ (q_threads W - q_bits (q_doneOnes W)) = 0 := by
  have h1 := left0 h hc
  have h2 := ndc_le W (nv W 9) 0
  have h3 := h.N4
  rw [draw_b h.N h.N4]
  exact zon0 h1 (by omega)
theorem drawOf_2 (W : Nat → Int32) (b : Int32) : (q_drawOf W b).2 = upd W 13 (W 13 * Int32.ofNat 1103515245 + Int32.ofNat 12345) := rfl
theorem dn_put {W : Nat → Int32} {x : Int32} {u : Nat} : dn (upd W 13 x) u = dn W u := by
  unfold dn q_of
  rw [upd_ne _ _ (by omega), upd_ne _ _ (by omega)]
theorem ndc_put {W : Nat → Int32} {x : Int32} : ∀ n k, ndc (upd W 13 x) n k = ndc W n k := by
  intro n
  induction n with
  | zero => intro k; rfl
  | succ n ih => intro k; rw [ndc, ndc, dn_put, ih]
theorem drawn_ok {W : Nat → Int32} (h : WG W) (hc : zc1 .ne (q_areAllDone W) = false) : ∃ v, v < nv W 9 ∧ AL (q_drawnOne W).2 v ∧ (q_drawnOne W).1 = Int32.ofNat v := by
  have h1 := left0 h hc
  have h2 := ndc_le W (nv W 9) 0
  have h3 := h.N4
  have hw : WG (q_drawnOne W).2 := h.put _ (fre_lo (by omega) (by omega))
  have e1 : ∃ A, A < ndc W (nv W 9) 0 ∧ (q_drawOf W (q_threads W - q_bits (q_doneOnes W))).1 = Int32.ofNat A := by
    rw [draw_b h.N h.N4]
    unfold q_drawOf
    dsimp only
    obtain ⟨X, hX, eX⟩ := zand15 (((upd W 13 (W 13 * Int32.ofNat 1103515245 + Int32.ofNat 12345) 13).toUInt32 >>> ((Int32.ofNat 16).toUInt32 &&& Int32.toUInt32 31)).toInt32)
    refine ⟨X % ndc W (nv W 9) 0, Nat.mod_lt _ (by omega), ?_⟩
    rw [eX, zremN (by omega) (by omega)]
  obtain ⟨A, hA, eA⟩ := e1
  obtain ⟨v, -, v2, v3, v4⟩ := drawL (W := (q_drawnOne W).2) (n9 := nv W 9) (nv W 9) 0 A (by omega) (by
    show A < ndc (upd W 13 _) (nv W 9) 0
    rw [ndc_put]; exact hA)
  refine ⟨v, by omega, dn_AL hw (by omega) v3, ?_⟩
  rw [← v4, ← eA]
  rfl
noncomputable def nxn (W : Nat → Int32) : Nat := (q_nextOne W).toNatClampNeg
noncomputable def dxn (W : Nat → Int32) : Nat := (q_drawnOne W).1.toNatClampNeg
theorem next_n {W : Nat → Int32} (h : WG W) (hL : LT W) (hc : zc1 .ne (q_areAllDone W) = false) : q_nextOne W = Int32.ofNat (nxn W) ∧ nxn W < 4 ∧ KG W (nxn W) := by
  obtain ⟨v, v1, v2, v3⟩ := next_ok h hL hc
  have h4 := h.N4
  unfold nxn
  rw [v3, nv_on (by omega)]
  exact ⟨rfl, by omega, h, v2⟩
theorem drawn_n {W : Nat → Int32} (h : WG W) (hc : zc1 .ne (q_areAllDone W) = false) : (q_drawnOne W).1 = Int32.ofNat (dxn W) ∧ dxn W < 4 ∧ KG (q_drawnOne W).2 (dxn W) := by
  obtain ⟨v, v1, v2, v3⟩ := drawn_ok h hc
  have h4 := h.N4
  unfold dxn
  rw [v3, nv_on (by omega)]
  exact ⟨rfl, by omega, h.put _ (fre_lo (by omega) (by omega)), v2⟩
theorem LT_of {W : Nat → Int32} {t : Nat} (h : W 12 = Int32.ofNat t) (ht : t < 4) : LT W := by
  have e : W 12 + Int32.ofNat 1 = Int32.ofNat (t + 1) := by rw [h, Int32.ofNat_add]
  unfold LT lt1
  rw [e, nv_on (by omega)]
  exact ⟨rfl, by omega⟩
noncomputable def l_goesT (q : Nat) : Nat → Nat → (Nat → Int32) → (Nat → Nat → Int32) → Int32 × (Nat → Int32) × (Nat → Nat → Int32)
  | 0, k, W, m => ((Int32.ofNat k), W, m)
  | n + 1, k, W, m => (bif zc1 .ne (q_areAllDone W) then ((Int32.ofNat k), W, m) else (bif zc2 .ge (W 11) (Int32.ofNat 99999) then ((Int32.ofNat k), W, m) else (l_goesT q n ((k + 1)) ((q_steps m W ((nxn W))).2.1) ((q_steps m W ((nxn W))).2.2))))
theorem w_goesT {σ : Nat → Nat × (Nat → Int32)} {yy : (Nat → Nat → Int64) × Bool × Nat × Nat} {q : Nat} {d : Nat} (hd : 10 ≤ d + 1) (hq : q ≤ 1000) : ∀ (n : Nat) (k : Nat) (x4 : Option Value) (W : Nat → Int32) (m : Nat → Nat → Int32), k + n = q → WG W → LT W → zEv σ (d + 1) 1865 2 [some (.ref 137), some (.int (Int32.ofNat q)), some (.int (Int32.ofNat 0)), some (.int (Int32.ofNat k)), x4] [] (zS1, zrow m 138 W, yy) (.inl (some (.int (l_goesT q n k W m).1))) (zS1, zrow ((l_goesT q n k W m).2.2) 138 ((l_goesT q n k W m).2.1), yy) := by
  intro n
  induction n with
  | zero =>
    intro k x4 W m hk hw hL
    refine zeP rfl rfl ?_
    refine zeP rfl rfl ?_
    refine zeT2 rfl rfl (zcge (by omega) (by omega) (by omega)) ?_
    refine zeP rfl rfl ?_
    exact zeRe rfl rfl rfl rfl (by rfl) (by rfl)
  | succ n ih =>
    intro k x4 W m hk hw hL
    refine zeP rfl rfl ?_
    refine zeP rfl rfl ?_
    refine zeF2 rfl rfl (zcge_f (by omega) (by omega) (by omega)) ?_
    refine zeP rfl rfl ?_
    refine zeCF rfl rfl rfl rfl rfl rfl (c_areAllDone (m := m) (W := W)  hw.N hw.N4) (by omega) ?_
    dsimp only [Option.toList, List.cons_append, List.nil_append]
    refine zeB1 rfl rfl (fun h1 => ?_) (fun h1 => ?_)
    · refine zeP rfl rfl ?_
      exact zeRe rfl rfl rfl rfl (by simp only [l_goesT, h1, cond_true, cond_false] <;> rfl) (by simp only [l_goesT, h1, cond_true, cond_false] <;> rfl)
    · refine zeP rfl rfl ?_
      refine zeGR rfl rfl zS137 rfl rfl ?_
      refine zeKn (c := 11) rfl rfl rfl ?_
      refine zeWL (k := 11) rfl (by omega) ?_
      refine zeKn (c := 99999) rfl rfl rfl ?_
      refine zeB2 rfl rfl (fun h2 => ?_) (fun h2 => ?_)
      · refine zeP rfl rfl ?_
        exact zeRe rfl rfl rfl rfl (by simp only [l_goesT, h1, h2, cond_true, cond_false] <;> rfl) (by simp only [l_goesT, h1, h2, cond_true, cond_false] <;> rfl)
      · refine zeP rfl rfl ?_
        refine zeP rfl rfl ?_
        refine zeT1 rfl rfl (show zc1 .eq (Int32.ofNat 0) = true by decide) ?_
        refine zeP rfl rfl ?_
        refine zeCF rfl rfl rfl rfl rfl rfl (c_nextOne (m := m) (W := W)  hw.N hw.N4 hL) (by omega) ?_
        dsimp only [Option.toList, List.cons_append, List.nil_append]
        rw [(next_n hw hL (by assumption)).1]
        refine zeCF rfl rfl rfl rfl rfl rfl (c_steps (m := m) (W := W) (t := (nxn W)) (next_n hw hL (by assumption)).2.2 (next_n hw hL (by assumption)).2.1) (by omega) ?_
        dsimp only [Option.toList, List.cons_append, List.nil_append]
        refine zeP rfl rfl ?_
        refine zeInc rfl rfl ?_
        refine zeP rfl rfl ?_
        simp only [l_goesT, h1, h2, cond_true, cond_false]
        exact ih ((k + 1)) (some (.int (q_steps m W ((nxn W))).1)) ((q_steps m W ((nxn W))).2.1) ((q_steps m W ((nxn W))).2.2) (by omega) (steps_ok (next_n hw hL (by assumption)).2.2 (next_n hw hL (by assumption)).2.1).1 (LT_of (steps_ok (m := m) (next_n hw hL (by assumption)).2.2 (next_n hw hL (by assumption)).2.1).2 (next_n hw hL (by assumption)).2.1)
noncomputable def q_goesT (m : Nat → Nat → Int32) (W : Nat → Int32) (q : Nat) : Int32 × (Nat → Int32) × (Nat → Nat → Int32) := (l_goesT q q 0 W m)
theorem p_goesT {σ : Nat → Nat × (Nat → Int32)} {yy : (Nat → Nat → Int64) × Bool × Nat × Nat} {m : Nat → Nat → Int32} {W : Nat → Int32} {q : Nat} {d : Nat} (hd : 10 ≤ d + 1) (hq : q ≤ 1000) (hw : WG W) (hL : LT W) : zEv σ (d + 1) 1865 0 [some (.ref 137), some (.int (Int32.ofNat q)), some (.int (Int32.ofNat 0)), none, none] [] (zS1, zrow m 138 W, yy) (.inl (some (.int (q_goesT m W q).1))) (zS1, zrow ((q_goesT m W q).2.2) 138 ((q_goesT m W q).2.1), yy) := by
  refine zeKn (c := 0) rfl rfl rfl ?_
  refine zeP rfl rfl ?_
  simp only [q_goesT, cond_true, cond_false]
  exact w_goesT (q := q) (by omega) hq q (0) (none) W m (by omega) hw hL
theorem c_goesT {σ : Nat → Nat × (Nat → Int32)} {yy : (Nat → Nat → Int64) × Bool × Nat × Nat} {m : Nat → Nat → Int32} {W : Nat → Int32} {q : Nat} (hq : q ≤ 1000) (hw : WG W) (hL : LT W) : zF σ 10 1865 [.ref 137, .int (Int32.ofNat q), .int (Int32.ofNat 0)] (zS1, zrow m 138 W, yy) (.inl (some (.int (q_goesT m W q).1))) (zS1, zrow ((q_goesT m W q).2.2) 138 ((q_goesT m W q).2.1), yy) := by
  intro d hd
  obtain ⟨d, rfl⟩ : ∃ k, d = k + 1 := ⟨d - 1, by omega⟩
  exact p_goesT hd hq hw hL
noncomputable def l_goesD (q : Nat) : Nat → Nat → (Nat → Int32) → (Nat → Nat → Int32) → Int32 × (Nat → Int32) × (Nat → Nat → Int32)
  | 0, k, W, m => ((Int32.ofNat k), W, m)
  | n + 1, k, W, m => (bif zc1 .ne (q_areAllDone W) then ((Int32.ofNat k), W, m) else (bif zc2 .ge (W 11) (Int32.ofNat 99999) then ((Int32.ofNat k), W, m) else (l_goesD q n ((k + 1)) ((q_steps m ((q_drawnOne W).2) ((dxn W))).2.1) ((q_steps m ((q_drawnOne W).2) ((dxn W))).2.2))))
theorem w_goesD {σ : Nat → Nat × (Nat → Int32)} {yy : (Nat → Nat → Int64) × Bool × Nat × Nat} {q : Nat} {d : Nat} (hd : 10 ≤ d + 1) (hq : q ≤ 1000) : ∀ (n : Nat) (k : Nat) (x4 : Option Value) (W : Nat → Int32) (m : Nat → Nat → Int32), k + n = q → WG W → LT W → zEv σ (d + 1) 1865 2 [some (.ref 137), some (.int (Int32.ofNat q)), some (.int (Int32.ofNat 1)), some (.int (Int32.ofNat k)), x4] [] (zS1, zrow m 138 W, yy) (.inl (some (.int (l_goesD q n k W m).1))) (zS1, zrow ((l_goesD q n k W m).2.2) 138 ((l_goesD q n k W m).2.1), yy) := by
  intro n
  induction n with
  | zero =>
    intro k x4 W m hk hw hL
    refine zeP rfl rfl ?_
    refine zeP rfl rfl ?_
    refine zeT2 rfl rfl (zcge (by omega) (by omega) (by omega)) ?_
    refine zeP rfl rfl ?_
    exact zeRe rfl rfl rfl rfl (by rfl) (by rfl)
  | succ n ih =>
    intro k x4 W m hk hw hL
    refine zeP rfl rfl ?_
    refine zeP rfl rfl ?_
    refine zeF2 rfl rfl (zcge_f (by omega) (by omega) (by omega)) ?_
    refine zeP rfl rfl ?_
    refine zeCF rfl rfl rfl rfl rfl rfl (c_areAllDone (m := m) (W := W)  hw.N hw.N4) (by omega) ?_
    dsimp only [Option.toList, List.cons_append, List.nil_append]
    refine zeB1 rfl rfl (fun h1 => ?_) (fun h1 => ?_)
    · refine zeP rfl rfl ?_
      exact zeRe rfl rfl rfl rfl (by simp only [l_goesD, h1, cond_true, cond_false] <;> rfl) (by simp only [l_goesD, h1, cond_true, cond_false] <;> rfl)
    · refine zeP rfl rfl ?_
      refine zeGR rfl rfl zS137 rfl rfl ?_
      refine zeKn (c := 11) rfl rfl rfl ?_
      refine zeWL (k := 11) rfl (by omega) ?_
      refine zeKn (c := 99999) rfl rfl rfl ?_
      refine zeB2 rfl rfl (fun h2 => ?_) (fun h2 => ?_)
      · refine zeP rfl rfl ?_
        exact zeRe rfl rfl rfl rfl (by simp only [l_goesD, h1, h2, cond_true, cond_false] <;> rfl) (by simp only [l_goesD, h1, h2, cond_true, cond_false] <;> rfl)
      · refine zeP rfl rfl ?_
        refine zeP rfl rfl ?_
        refine zeF1 rfl rfl (show zc1 .eq (Int32.ofNat 1) = false by decide) ?_
        refine zeP rfl rfl ?_
        refine zeCF rfl rfl rfl rfl rfl rfl (c_drawnOne (m := m) (W := W)  hw.N hw.N4 (draw_d hw (by assumption))) (by omega) ?_
        dsimp only [Option.toList, List.cons_append, List.nil_append]
        rw [(drawn_n hw (by assumption)).1]
        refine zeP rfl rfl ?_
        refine zeCF rfl rfl rfl rfl rfl rfl (c_steps (m := m) (W := (q_drawnOne W).2) (t := (dxn W)) (drawn_n hw (by assumption)).2.2 (drawn_n hw (by assumption)).2.1) (by omega) ?_
        dsimp only [Option.toList, List.cons_append, List.nil_append]
        refine zeP rfl rfl ?_
        refine zeInc rfl rfl ?_
        refine zeP rfl rfl ?_
        simp only [l_goesD, h1, h2, cond_true, cond_false]
        exact ih ((k + 1)) (some (.int (q_steps m ((q_drawnOne W).2) ((dxn W))).1)) ((q_steps m ((q_drawnOne W).2) ((dxn W))).2.1) ((q_steps m ((q_drawnOne W).2) ((dxn W))).2.2) (by omega) (steps_ok (drawn_n hw (by assumption)).2.2 (drawn_n hw (by assumption)).2.1).1 (LT_of (steps_ok (m := m) (drawn_n hw (by assumption)).2.2 (drawn_n hw (by assumption)).2.1).2 (drawn_n hw (by assumption)).2.1)
noncomputable def q_goesD (m : Nat → Nat → Int32) (W : Nat → Int32) (q : Nat) : Int32 × (Nat → Int32) × (Nat → Nat → Int32) := (l_goesD q q 0 W m)
theorem p_goesD {σ : Nat → Nat × (Nat → Int32)} {yy : (Nat → Nat → Int64) × Bool × Nat × Nat} {m : Nat → Nat → Int32} {W : Nat → Int32} {q : Nat} {d : Nat} (hd : 10 ≤ d + 1) (hq : q ≤ 1000) (hw : WG W) (hL : LT W) : zEv σ (d + 1) 1865 0 [some (.ref 137), some (.int (Int32.ofNat q)), some (.int (Int32.ofNat 1)), none, none] [] (zS1, zrow m 138 W, yy) (.inl (some (.int (q_goesD m W q).1))) (zS1, zrow ((q_goesD m W q).2.2) 138 ((q_goesD m W q).2.1), yy) := by
  refine zeKn (c := 0) rfl rfl rfl ?_
  refine zeP rfl rfl ?_
  simp only [q_goesD, cond_true, cond_false]
  exact w_goesD (q := q) (by omega) hq q (0) (none) W m (by omega) hw hL
theorem c_goesD {σ : Nat → Nat × (Nat → Int32)} {yy : (Nat → Nat → Int64) × Bool × Nat × Nat} {m : Nat → Nat → Int32} {W : Nat → Int32} {q : Nat} (hq : q ≤ 1000) (hw : WG W) (hL : LT W) : zF σ 10 1865 [.ref 137, .int (Int32.ofNat q), .int (Int32.ofNat 1)] (zS1, zrow m 138 W, yy) (.inl (some (.int (q_goesD m W q).1))) (zS1, zrow ((q_goesD m W q).2.2) 138 ((q_goesD m W q).2.1), yy) := by
  intro d hd
  obtain ⟨d, rfl⟩ : ∃ k, d = k + 1 := ⟨d - 1, by omega⟩
  exact p_goesD hd hq hw hL
end
section
/-! what is asked of the reference -/
theorem throwsIf_1 (m : Nat → Nat → Int32) (b : Int32) (c : Nat) : (q_throwsIf m b c).1 = b := by
  unfold q_throwsIf
  exact cndi (fun q : Int32 × (Nat → Nat → Int32) => q.1 = b) rfl rfl
theorem natOf {v : Int32} (h : 0 ≤ v.toInt) : v = Int32.ofNat v.toNatClampNeg ∧ (v.toNatClampNeg : Int) = v.toInt := by
  have h1 : v.toNatClampNeg = v.toInt.toNat := rfl
  have h2 := Int32.toInt_lt v
  have h3 : (v.toNatClampNeg : Int) = v.toInt := by rw [h1]; exact Int.toNat_of_nonneg h
  refine ⟨?_, h3⟩
  apply Int32.toInt_inj.mp
  rw [zoN (by omega), h3]
theorem in_1 {v : Int32} {a b : Nat} (ha : a < 2147483648) (hb : b < 2147483648) (h : zc1 .ne (q_in v (Int32.ofNat a) (Int32.ofNat b)) = true) : v = Int32.ofNat v.toNatClampNeg ∧ (a ≤ v.toNatClampNeg ∧ v.toNatClampNeg ≤ b) := by
  unfold q_in at h
  cases h1 : zc2 .lt v (Int32.ofNat a) with
  | true => rw [h1, cond_true] at h; exact absurd h (by decide)
  | false =>
    rw [h1, cond_false] at h
    cases h2 : zc2 .gt v (Int32.ofNat b) with
    | true => rw [h2, cond_true] at h; exact absurd h (by decide)
    | false =>
      have e1 : ¬ v < Int32.ofNat a := of_decide_eq_false h1
      have e2 : ¬ Int32.ofNat b < v := of_decide_eq_false h2
      rw [Int32.lt_iff_toInt_lt, zoN ha] at e1
      rw [Int32.lt_iff_toInt_lt, zoN hb] at e2
      obtain ⟨e3, e4⟩ := natOf (v := v) (by omega)
      exact ⟨e3, by omega, by omega⟩
/-- within the threads (none at all: nothing is) -/
theorem in_N {v : Int32} {W : Nat → Int32} (hN : W 9 = Int32.ofNat (nv W 9)) (hN4 : nv W 9 ≤ 4) (h : zc1 .ne (q_in v (Int32.ofNat 0) (q_threads W - Int32.ofNat 1)) = true) : v = Int32.ofNat v.toNatClampNeg ∧ v.toNatClampNeg < nv W 9 := by
  have h9 : q_threads W = Int32.ofNat (nv W 9) := hN
  rw [h9] at h
  by_cases h0 : nv W 9 = 0
  · rw [h0] at h
    unfold q_in at h
    cases h1 : zc2 .lt v (Int32.ofNat 0) with
    | true => rw [h1, cond_true] at h; exact absurd h (by decide)
    | false =>
      rw [h1, cond_false] at h
      have e1 : ¬ v < Int32.ofNat 0 := of_decide_eq_false h1
      have e2 : zc2 .gt v (Int32.ofNat 0 - Int32.ofNat 1) = true := by
        apply decide_eq_true
        rw [Int32.lt_iff_toInt_lt]
        rw [Int32.lt_iff_toInt_lt, zoN (by omega)] at e1
        have e3 : (Int32.ofNat 0 - Int32.ofNat 1).toInt = -1 := by decide
        omega
      rw [e2, cond_true] at h
      exact absurd h (by decide)
  · rw [zsubN (by omega)] at h
    have h2 := in_1 (by omega) (by omega) h
    exact ⟨h2.1, by omega⟩
noncomputable def q_thr0 (c : Nat) : Int32 := (Int32.ofNat 0)
theorem p_thr0 {σ : Nat → Nat × (Nat → Int32)} {yy : (Nat → Nat → Int64) × Bool × Nat × Nat} {m : Nat → Nat → Int32} {W : Nat → Int32} {c : Nat} {d : Nat} (hd : 1 ≤ d + 1) : zEv σ (d + 1) 1801 0 [some (.ref 137), some (.int (Int32.ofNat 0)), some (.int (Int32.ofNat c))] [] (zS1, zrow m 138 W, yy) (.inl (some (.int (q_thr0 c)))) (zS1, zrow m 138 W, yy) := by
  refine zeP rfl rfl ?_
  refine zeT1 rfl rfl (show zc1 .eq (Int32.ofNat 0) = true by decide) ?_
  refine zeP rfl rfl ?_
  exact zeRe rfl rfl rfl rfl (by rfl) (by rfl)
theorem c_thr0 {σ : Nat → Nat × (Nat → Int32)} {yy : (Nat → Nat → Int64) × Bool × Nat × Nat} {m : Nat → Nat → Int32} {W : Nat → Int32} {c : Nat} : zF σ 1 1801 [.ref 137, .int (Int32.ofNat 0), .int (Int32.ofNat c)] (zS1, zrow m 138 W, yy) (.inl (some (.int (q_thr0 c)))) (zS1, zrow m 138 W, yy) := by
  intro d hd
  obtain ⟨d, rfl⟩ : ∃ k, d = k + 1 := ⟨d - 1, by omega⟩
  exact p_thr0 hd 
noncomputable def q_thr1 (m : Nat → Nat → Int32) (c : Nat) : Int32 × (Nat → Nat → Int32) := ((Int32.ofNat 1), (zm2 m 137 0 (Int32.ofNat c)))
theorem p_thr1 {σ : Nat → Nat × (Nat → Int32)} {yy : (Nat → Nat → Int64) × Bool × Nat × Nat} {m : Nat → Nat → Int32} {W : Nat → Int32} {c : Nat} {d : Nat} (hd : 1 ≤ d + 1) : zEv σ (d + 1) 1801 0 [some (.ref 137), some (.int (Int32.ofNat 1)), some (.int (Int32.ofNat c))] [] (zS1, zrow m 138 W, yy) (.inl (some (.int (q_thr1 m c).1))) (zS1, zrow ((q_thr1 m c).2) 138 W, yy) := by
  refine zeP rfl rfl ?_
  refine zeF1 rfl rfl (show zc1 .eq (Int32.ofNat 1) = false by decide) ?_
  refine zeP rfl rfl ?_
  refine zeP rfl rfl ?_
  refine zeFP rfl rfl rfl ?_
  refine zeP rfl rfl ?_
  exact zeRe rfl rfl rfl rfl (by rfl) (by rfl)
theorem c_thr1 {σ : Nat → Nat × (Nat → Int32)} {yy : (Nat → Nat → Int64) × Bool × Nat × Nat} {m : Nat → Nat → Int32} {W : Nat → Int32} {c : Nat} : zF σ 1 1801 [.ref 137, .int (Int32.ofNat 1), .int (Int32.ofNat c)] (zS1, zrow m 138 W, yy) (.inl (some (.int (q_thr1 m c).1))) (zS1, zrow ((q_thr1 m c).2) 138 W, yy) := by
  intro d hd
  obtain ⟨d, rfl⟩ : ∃ k, d = k + 1 := ⟨d - 1, by omega⟩
  exact p_thr1 hd 
theorem zeSw {σ : Nat → Nat × (Nat → Int32)} {d j pc pc' len K : Nat} {lv : zLv} {st : List Value} {M M' : zMem} {o : zO} {i : Instr} {x : Int32} (hf : zfe j pc = some (i, len)) (hx : x = Int32.ofNat K) (hp : zP (j / 200) i pc lv (.int (Int32.ofNat K) :: st) = some (pc', lv, st)) (k : zEv σ d j pc' lv st M o M') : zEv σ d j pc lv (.int x :: st) M o M' := by
  subst hx
  exact zeP hf hp k
noncomputable def q_noThread (m : Nat → Nat → Int32) (W : Nat → Int32) (t : Int32) : Int32 × (Nat → Nat → Int32) := (bif zc1 .ne (q_in t ((Int32.ofNat 0)) (((q_threads W) - (Int32.ofNat 1)))) then ((Int32.ofNat 0), (zm2 m 137 0 (Int32.ofNat 0))) else ((Int32.ofNat 1), (q_thr1 ((zm2 m 137 0 (Int32.ofNat 0))) 1).2))
theorem p_noThread {σ : Nat → Nat × (Nat → Int32)} {yy : (Nat → Nat → Int64) × Bool × Nat × Nat} {m : Nat → Nat → Int32} {W : Nat → Int32} {t : Int32} {d : Nat} (hd : 2 ≤ d + 1) : zEv σ (d + 1) 1863 0 [some (.ref 137), some (.int t)] [] (zS1, zrow m 138 W, yy) (.inl (some (.int (q_noThread m W t).1))) (zS1, zrow ((q_noThread m W t).2) 138 W, yy) := by
  refine zeP rfl rfl ?_
  refine zeKn (c := 0) rfl rfl rfl ?_
  refine zeFP rfl rfl rfl ?_
  refine zeP rfl rfl ?_
  refine zeP rfl rfl ?_
  refine zeKn (c := 0) rfl rfl rfl ?_
  refine zeP rfl rfl ?_
  refine zeCF rfl rfl rfl rfl rfl rfl (c_threads (m := (zm2 m 137 0 (Int32.ofNat 0))) (W := W)  ) (by omega) ?_
  dsimp only [Option.toList, List.cons_append, List.nil_append]
  refine zeKn (c := 1) rfl rfl rfl ?_
  refine zeP rfl rfl ?_
  refine zeCF rfl rfl rfl rfl rfl rfl (c_in (m := (zm2 m 137 0 (Int32.ofNat 0))) (W := W) (v := t) (lo := (Int32.ofNat 0)) (hi := ((q_threads W) - (Int32.ofNat 1))) ) (by omega) ?_
  dsimp only [Option.toList, List.cons_append, List.nil_append]
  refine zeB1 rfl rfl (fun h1 => ?_) (fun h1 => ?_)
  · refine zeKn (c := 0) rfl rfl rfl ?_
    refine zeKn (c := 1) rfl rfl rfl ?_
    refine zeCF rfl rfl rfl rfl rfl rfl (c_thr0 (m := (zm2 m 137 0 (Int32.ofNat 0))) (W := W) (c := 1) ) (by omega) ?_
    dsimp only [Option.toList, List.cons_append, List.nil_append]
    exact zeRe rfl rfl rfl rfl (by simp only [q_noThread, h1, cond_true, cond_false] <;> rfl) (by simp only [q_noThread, h1, cond_true, cond_false] <;> rfl)
  · refine zeKn (c := 1) rfl rfl rfl ?_
    refine zeP rfl rfl ?_
    refine zeKn (c := 1) rfl rfl rfl ?_
    refine zeCF rfl rfl rfl rfl rfl rfl (c_thr1 (m := (zm2 m 137 0 (Int32.ofNat 0))) (W := W) (c := 1) ) (by omega) ?_
    dsimp only [Option.toList, List.cons_append, List.nil_append]
    exact zeRe rfl rfl rfl rfl (by simp only [q_noThread, h1, cond_true, cond_false] <;> rfl) (by simp only [q_noThread, h1, cond_true, cond_false] <;> rfl)
theorem c_noThread {σ : Nat → Nat × (Nat → Int32)} {yy : (Nat → Nat → Int64) × Bool × Nat × Nat} {m : Nat → Nat → Int32} {W : Nat → Int32} {t : Int32} : zF σ 2 1863 [.ref 137, .int t] (zS1, zrow m 138 W, yy) (.inl (some (.int (q_noThread m W t).1))) (zS1, zrow ((q_noThread m W t).2) 138 W, yy) := by
  intro d hd
  obtain ⟨d, rfl⟩ : ∃ k, d = k + 1 := ⟨d - 1, by omega⟩
  exact p_noThread hd 
theorem nT_in {m : Nat → Nat → Int32} {W : Nat → Int32} {t : Int32} (h : WG W) (hc : zc1 .ne (q_noThread m W t).1 = false) : t = Int32.ofNat t.toNatClampNeg ∧ t.toNatClampNeg < nv W 9 := by
  unfold q_noThread at hc
  cases h1 : zc1 .ne (q_in t (Int32.ofNat 0) (q_threads W - Int32.ofNat 1)) with
  | true => exact in_N h.N h.N4 h1
  | false =>
    rw [h1, cond_false] at hc
    exact absurd hc (show ¬ zc1 .ne (Int32.ofNat 1) = false by decide)
end
section
noncomputable def l_fellOf (W : Nat → Int32) (t : Nat) : Nat → Int32 → Nat → Int32
  | 0, c, k => c
  | n + 1, c, k => (l_fellOf W t n ((c + (q_of W t ((5 + k))))) ((k + 1)))
theorem w_fellOf {σ : Nat → Nat × (Nat → Int32)} {yy : (Nat → Nat → Int64) × Bool × Nat × Nat} {m : Nat → Nat → Int32} {W : Nat → Int32} {t : Nat} {d : Nat} (hd : 3 ≤ d + 1) (ht : t < 4) : ∀ (n : Nat) (c : Int32) (k : Nat), k + n = 5 → zEv σ (d + 1) 1871 4 [some (.ref 137), some (.int (Int32.ofNat t)), some (.int c), some (.int (Int32.ofNat k))] [] (zS1, zrow m 138 W, yy) (.inl (some (.int (l_fellOf W t n c k)))) (zS1, zrow m 138 W, yy) := by
  intro n
  induction n with
  | zero =>
    intro c k hk
    refine zeP rfl rfl ?_
    refine zeKn (c := 5) rfl rfl rfl ?_
    refine zeT2 rfl rfl (zcge (by omega) (by omega) (by omega)) ?_
    refine zeP rfl rfl ?_
    exact zeRe rfl rfl rfl rfl (by rfl) (by rfl)
  | succ n ih =>
    intro c k hk
    refine zeP rfl rfl ?_
    refine zeKn (c := 5) rfl rfl rfl ?_
    refine zeF2 rfl rfl (zcge_f (by omega) (by omega) (by omega)) ?_
    refine zeP rfl rfl ?_
    refine zeP rfl rfl ?_
    refine zeP rfl rfl ?_
    refine zeKn (c := 5) rfl rfl rfl ?_
    refine zeP rfl rfl ?_
    refine zeAdd rfl ?_
    refine zeCF rfl rfl rfl rfl rfl rfl (c_of (m := m) (W := W) (t := t) (k := (5 + k)) (by first | assumption | omega)) (by omega) ?_
    dsimp only [Option.toList, List.cons_append, List.nil_append]
    refine zeP rfl rfl ?_
    refine zeP rfl rfl ?_
    refine zeInc rfl rfl ?_
    refine zeP rfl rfl ?_
    simp only [l_fellOf, cond_true, cond_false]
    exact ih ((c + (q_of W t ((5 + k))))) ((k + 1))   (by omega) 
noncomputable def q_fellOf (W : Nat → Int32) (t : Nat) : Int32 := (l_fellOf W t 5 ((Int32.ofNat 0)) 0)
theorem p_fellOf {σ : Nat → Nat × (Nat → Int32)} {yy : (Nat → Nat → Int64) × Bool × Nat × Nat} {m : Nat → Nat → Int32} {W : Nat → Int32} {t : Nat} {d : Nat} (hd : 3 ≤ d + 1) (ht : t < 4) : zEv σ (d + 1) 1871 0 [some (.ref 137), some (.int (Int32.ofNat t)), none, none] [] (zS1, zrow m 138 W, yy) (.inl (some (.int (q_fellOf W t)))) (zS1, zrow m 138 W, yy) := by
  refine zeKn (c := 0) rfl rfl rfl ?_
  refine zeP rfl rfl ?_
  refine zeKn (c := 0) rfl rfl rfl ?_
  refine zeP rfl rfl ?_
  simp only [q_fellOf, cond_true, cond_false]
  exact w_fellOf (t := t) (W := W) (m := m) (by omega) (by first | assumption | omega) 5 ((Int32.ofNat 0)) (0)   (by omega) 
theorem c_fellOf {σ : Nat → Nat × (Nat → Int32)} {yy : (Nat → Nat → Int64) × Bool × Nat × Nat} {m : Nat → Nat → Int32} {W : Nat → Int32} {t : Nat} (ht : t < 4) : zF σ 3 1871 [.ref 137, .int (Int32.ofNat t)] (zS1, zrow m 138 W, yy) (.inl (some (.int (q_fellOf W t)))) (zS1, zrow m 138 W, yy) := by
  intro d hd
  obtain ⟨d, rfl⟩ : ∃ k, d = k + 1 := ⟨d - 1, by omega⟩
  exact p_fellOf hd ht
noncomputable def q_thread (m : Nat → Nat → Int32) (W : Nat → Int32) (t : Int32) (x : Int32) : Int32 × (Nat → Nat → Int32) := (bif zc1 .ne (q_noThread m W t).1 then ((Int32.ofNat 0), (q_noThread m W t).2) else (bif zc1 .ne (q_in x ((Int32.ofNat 0)) ((Int32.ofNat 9))) then (bif Nat.beq ((x.toNatClampNeg)) 0 then ((q_of W ((t.toNatClampNeg)) 0), (q_noThread m W t).2) else (bif Nat.beq ((x.toNatClampNeg)) 1 then ((q_of W ((t.toNatClampNeg)) 1), (q_noThread m W t).2) else (bif Nat.beq ((x.toNatClampNeg)) 2 then ((q_of W ((t.toNatClampNeg)) 2), (q_noThread m W t).2) else (bif Nat.beq ((x.toNatClampNeg)) 3 then (bif zc1 .eq (q_isDone W ((t.toNatClampNeg))) then ((Int32.ofNat 0), (q_noThread m W t).2) else ((Int32.ofNat 1), (q_noThread m W t).2)) else (bif Nat.beq ((x.toNatClampNeg)) 4 then ((q_of W ((t.toNatClampNeg)) 3), (q_noThread m W t).2) else (bif Nat.beq ((x.toNatClampNeg)) 5 then ((q_of W ((t.toNatClampNeg)) 4), (q_noThread m W t).2) else (bif Nat.beq ((x.toNatClampNeg)) 6 then ((q_fellOf W ((t.toNatClampNeg))), (q_noThread m W t).2) else (bif Nat.beq ((x.toNatClampNeg)) 7 then ((q_of W ((t.toNatClampNeg)) 10), (q_noThread m W t).2) else (bif Nat.beq ((x.toNatClampNeg)) 8 then ((q_of W ((t.toNatClampNeg)) 22), (q_noThread m W t).2) else ((q_of W ((t.toNatClampNeg)) 21), (q_noThread m W t).2)))))))))) else ((Int32.ofNat 0), (q_thr1 ((q_noThread m W t).2) 2).2)))
theorem p_thread {σ : Nat → Nat × (Nat → Int32)} {yy : (Nat → Nat → Int64) × Bool × Nat × Nat} {m : Nat → Nat → Int32} {W : Nat → Int32} {t : Int32} {x : Int32} {d : Nat} (hd : 4 ≤ d + 1) (hw : WG W) : zEv σ (d + 1) 1872 0 [some (.ref 137), some (.int t), some (.int x)] [] (zS1, zrow m 138 W, yy) (.inl (some (.int (q_thread m W t x).1))) (zS1, zrow ((q_thread m W t x).2) 138 W, yy) := by
  refine zeP rfl rfl ?_
  refine zeP rfl rfl ?_
  refine zeCF rfl rfl rfl rfl rfl rfl (c_noThread (m := m) (W := W) (t := t) ) (by omega) ?_
  dsimp only [Option.toList, List.cons_append, List.nil_append]
  refine zeB1 rfl rfl (fun h1 => ?_) (fun h1 => ?_)
  · refine zeKn (c := 0) rfl rfl rfl ?_
    exact zeRe rfl rfl rfl rfl (by simp only [q_thread, h1, cond_true, cond_false] <;> rfl) (by simp only [q_thread, h1, cond_true, cond_false] <;> rfl)
  · have ct : t = Int32.ofNat t.toNatClampNeg ∧ t.toNatClampNeg < nv W 9 := (nT_in hw (by assumption))
    refine zeP rfl rfl ?_
    refine zeP rfl rfl ?_
    refine zeKn (c := 0) rfl rfl rfl ?_
    refine zeKn (c := 9) rfl rfl rfl ?_
    refine zeCF rfl rfl rfl rfl rfl rfl (c_in (m := (q_noThread m W t).2) (W := W) (v := x) (lo := (Int32.ofNat 0)) (hi := (Int32.ofNat 9)) ) (by omega) ?_
    dsimp only [Option.toList, List.cons_append, List.nil_append]
    refine zeB1 rfl rfl (fun h2 => ?_) (fun h2 => ?_)
    · refine zeKn (c := 0) rfl rfl rfl ?_
      refine zeKn (c := 2) rfl rfl rfl ?_
      refine zeCF rfl rfl rfl rfl rfl rfl (c_thr0 (m := (q_noThread m W t).2) (W := W) (c := 2) ) (by omega) ?_
      dsimp only [Option.toList, List.cons_append, List.nil_append]
      refine zeT1 rfl rfl (show zc1 .eq (Int32.ofNat 0) = true by decide) ?_
      have cx : x = Int32.ofNat x.toNatClampNeg ∧ (0 ≤ x.toNatClampNeg ∧ x.toNatClampNeg ≤ 9) := (in_1 (by omega) (by omega) (by assumption))
      refine zeKn (c := x.toNatClampNeg) rfl rfl cx.1 ?_
      cases h3 : Nat.beq ((x.toNatClampNeg)) 0 with
      | true =>
        refine zeSw (K := 0) rfl (by rw [Nat.eq_of_beq_eq_true h3]) rfl ?_
        refine zeP rfl rfl ?_
        refine zeKn (c := t.toNatClampNeg) rfl rfl ct.1 ?_
        refine zeKn (c := 0) rfl rfl rfl ?_
        refine zeCF rfl rfl rfl rfl rfl rfl (c_of (m := (q_noThread m W t).2) (W := W) (t := (t.toNatClampNeg)) (k := 0) (by have := hw.N4; omega)) (by omega) ?_
        dsimp only [Option.toList, List.cons_append, List.nil_append]
        exact zeRe rfl rfl rfl rfl (by simp only [q_thread, h1, h2, h3, cond_true, cond_false] <;> rfl) (by simp only [q_thread, h1, h2, h3, cond_true, cond_false] <;> rfl)
      | false =>
        cases h4 : Nat.beq ((x.toNatClampNeg)) 1 with
        | true =>
          refine zeSw (K := 1) rfl (by rw [Nat.eq_of_beq_eq_true h4]) rfl ?_
          refine zeP rfl rfl ?_
          refine zeKn (c := t.toNatClampNeg) rfl rfl ct.1 ?_
          refine zeKn (c := 1) rfl rfl rfl ?_
          refine zeCF rfl rfl rfl rfl rfl rfl (c_of (m := (q_noThread m W t).2) (W := W) (t := (t.toNatClampNeg)) (k := 1) (by have := hw.N4; omega)) (by omega) ?_
          dsimp only [Option.toList, List.cons_append, List.nil_append]
          exact zeRe rfl rfl rfl rfl (by simp only [q_thread, h1, h2, h3, h4, cond_true, cond_false] <;> rfl) (by simp only [q_thread, h1, h2, h3, h4, cond_true, cond_false] <;> rfl)
        | false =>
          cases h5 : Nat.beq ((x.toNatClampNeg)) 2 with
          | true =>
            refine zeSw (K := 2) rfl (by rw [Nat.eq_of_beq_eq_true h5]) rfl ?_
            refine zeP rfl rfl ?_
            refine zeKn (c := t.toNatClampNeg) rfl rfl ct.1 ?_
            refine zeKn (c := 2) rfl rfl rfl ?_
            refine zeCF rfl rfl rfl rfl rfl rfl (c_of (m := (q_noThread m W t).2) (W := W) (t := (t.toNatClampNeg)) (k := 2) (by have := hw.N4; omega)) (by omega) ?_
            dsimp only [Option.toList, List.cons_append, List.nil_append]
            exact zeRe rfl rfl rfl rfl (by simp only [q_thread, h1, h2, h3, h4, h5, cond_true, cond_false] <;> rfl) (by simp only [q_thread, h1, h2, h3, h4, h5, cond_true, cond_false] <;> rfl)
          | false =>
            cases h6 : Nat.beq ((x.toNatClampNeg)) 3 with
            | true =>
              refine zeSw (K := 3) rfl (by rw [Nat.eq_of_beq_eq_true h6]) rfl ?_
              refine zeP rfl rfl ?_
              refine zeKn (c := t.toNatClampNeg) rfl rfl ct.1 ?_
              refine zeCF rfl rfl rfl rfl rfl rfl (c_isDone (m := (q_noThread m W t).2) (W := W) (t := (t.toNatClampNeg)) (by have := hw.N4; omega)) (by omega) ?_
              dsimp only [Option.toList, List.cons_append, List.nil_append]
              refine zeB1 rfl rfl (fun h7 => ?_) (fun h7 => ?_)
              · refine zeKn (c := 0) rfl rfl rfl ?_
                exact zeRe rfl rfl rfl rfl (by simp only [q_thread, h1, h2, h3, h4, h5, h6, h7, cond_true, cond_false] <;> rfl) (by simp only [q_thread, h1, h2, h3, h4, h5, h6, h7, cond_true, cond_false] <;> rfl)
              · refine zeKn (c := 1) rfl rfl rfl ?_
                refine zeP rfl rfl ?_
                exact zeRe rfl rfl rfl rfl (by simp only [q_thread, h1, h2, h3, h4, h5, h6, h7, cond_true, cond_false] <;> rfl) (by simp only [q_thread, h1, h2, h3, h4, h5, h6, h7, cond_true, cond_false] <;> rfl)
            | false =>
              cases h8 : Nat.beq ((x.toNatClampNeg)) 4 with
              | true =>
                refine zeSw (K := 4) rfl (by rw [Nat.eq_of_beq_eq_true h8]) rfl ?_
                refine zeP rfl rfl ?_
                refine zeKn (c := t.toNatClampNeg) rfl rfl ct.1 ?_
                refine zeKn (c := 3) rfl rfl rfl ?_
                refine zeCF rfl rfl rfl rfl rfl rfl (c_of (m := (q_noThread m W t).2) (W := W) (t := (t.toNatClampNeg)) (k := 3) (by have := hw.N4; omega)) (by omega) ?_
                dsimp only [Option.toList, List.cons_append, List.nil_append]
                exact zeRe rfl rfl rfl rfl (by simp only [q_thread, h1, h2, h3, h4, h5, h6, h8, cond_true, cond_false] <;> rfl) (by simp only [q_thread, h1, h2, h3, h4, h5, h6, h8, cond_true, cond_false] <;> rfl)
              | false =>
                cases h9 : Nat.beq ((x.toNatClampNeg)) 5 with
                | true =>
                  refine zeSw (K := 5) rfl (by rw [Nat.eq_of_beq_eq_true h9]) rfl ?_
                  refine zeP rfl rfl ?_
                  refine zeKn (c := t.toNatClampNeg) rfl rfl ct.1 ?_
                  refine zeKn (c := 4) rfl rfl rfl ?_
                  refine zeCF rfl rfl rfl rfl rfl rfl (c_of (m := (q_noThread m W t).2) (W := W) (t := (t.toNatClampNeg)) (k := 4) (by have := hw.N4; omega)) (by omega) ?_
                  dsimp only [Option.toList, List.cons_append, List.nil_append]
                  exact zeRe rfl rfl rfl rfl (by simp only [q_thread, h1, h2, h3, h4, h5, h6, h8, h9, cond_true, cond_false] <;> rfl) (by simp only [q_thread, h1, h2, h3, h4, h5, h6, h8, h9, cond_true, cond_false] <;> rfl)
                | false =>
                  cases h10 : Nat.beq ((x.toNatClampNeg)) 6 with
                  | true =>
                    refine zeSw (K := 6) rfl (by rw [Nat.eq_of_beq_eq_true h10]) rfl ?_
                    refine zeP rfl rfl ?_
                    refine zeKn (c := t.toNatClampNeg) rfl rfl ct.1 ?_
                    refine zeCF rfl rfl rfl rfl rfl rfl (c_fellOf (m := (q_noThread m W t).2) (W := W) (t := (t.toNatClampNeg)) (by have := hw.N4; omega)) (by omega) ?_
                    dsimp only [Option.toList, List.cons_append, List.nil_append]
                    exact zeRe rfl rfl rfl rfl (by simp only [q_thread, h1, h2, h3, h4, h5, h6, h8, h9, h10, cond_true, cond_false] <;> rfl) (by simp only [q_thread, h1, h2, h3, h4, h5, h6, h8, h9, h10, cond_true, cond_false] <;> rfl)
                  | false =>
                    cases h11 : Nat.beq ((x.toNatClampNeg)) 7 with
                    | true =>
                      refine zeSw (K := 7) rfl (by rw [Nat.eq_of_beq_eq_true h11]) rfl ?_
                      refine zeP rfl rfl ?_
                      refine zeKn (c := t.toNatClampNeg) rfl rfl ct.1 ?_
                      refine zeKn (c := 10) rfl rfl rfl ?_
                      refine zeCF rfl rfl rfl rfl rfl rfl (c_of (m := (q_noThread m W t).2) (W := W) (t := (t.toNatClampNeg)) (k := 10) (by have := hw.N4; omega)) (by omega) ?_
                      dsimp only [Option.toList, List.cons_append, List.nil_append]
                      exact zeRe rfl rfl rfl rfl (by simp only [q_thread, h1, h2, h3, h4, h5, h6, h8, h9, h10, h11, cond_true, cond_false] <;> rfl) (by simp only [q_thread, h1, h2, h3, h4, h5, h6, h8, h9, h10, h11, cond_true, cond_false] <;> rfl)
                    | false =>
                      cases h12 : Nat.beq ((x.toNatClampNeg)) 8 with
                      | true =>
                        refine zeSw (K := 8) rfl (by rw [Nat.eq_of_beq_eq_true h12]) rfl ?_
                        refine zeP rfl rfl ?_
                        refine zeKn (c := t.toNatClampNeg) rfl rfl ct.1 ?_
                        refine zeKn (c := 22) rfl rfl rfl ?_
                        refine zeCF rfl rfl rfl rfl rfl rfl (c_of (m := (q_noThread m W t).2) (W := W) (t := (t.toNatClampNeg)) (k := 22) (by have := hw.N4; omega)) (by omega) ?_
                        dsimp only [Option.toList, List.cons_append, List.nil_append]
                        exact zeRe rfl rfl rfl rfl (by simp only [q_thread, h1, h2, h3, h4, h5, h6, h8, h9, h10, h11, h12, cond_true, cond_false] <;> rfl) (by simp only [q_thread, h1, h2, h3, h4, h5, h6, h8, h9, h10, h11, h12, cond_true, cond_false] <;> rfl)
                      | false =>
                        have hB : (x.toNatClampNeg) = 9 := by
                          have e0 := Nat.ne_of_beq_eq_false h3
                          have e1 := Nat.ne_of_beq_eq_false h4
                          have e2 := Nat.ne_of_beq_eq_false h5
                          have e3 := Nat.ne_of_beq_eq_false h6
                          have e4 := Nat.ne_of_beq_eq_false h8
                          have e5 := Nat.ne_of_beq_eq_false h9
                          have e6 := Nat.ne_of_beq_eq_false h10
                          have e7 := Nat.ne_of_beq_eq_false h11
                          have e8 := Nat.ne_of_beq_eq_false h12
                          have eB := cx.2.2
                          omega
                        refine zeSw (K := 9) rfl (by rw [hB]) rfl ?_
                        refine zeP rfl rfl ?_
                        refine zeKn (c := t.toNatClampNeg) rfl rfl ct.1 ?_
                        refine zeKn (c := 21) rfl rfl rfl ?_
                        refine zeCF rfl rfl rfl rfl rfl rfl (c_of (m := (q_noThread m W t).2) (W := W) (t := (t.toNatClampNeg)) (k := 21) (by have := hw.N4; omega)) (by omega) ?_
                        dsimp only [Option.toList, List.cons_append, List.nil_append]
                        exact zeRe rfl rfl rfl rfl (by simp only [q_thread, h1, h2, h3, h4, h5, h6, h8, h9, h10, h11, h12, cond_true, cond_false] <;> rfl) (by simp only [q_thread, h1, h2, h3, h4, h5, h6, h8, h9, h10, h11, h12, cond_true, cond_false] <;> rfl)
    · refine zeKn (c := 1) rfl rfl rfl ?_
      refine zeP rfl rfl ?_
      refine zeKn (c := 2) rfl rfl rfl ?_
      refine zeCF rfl rfl rfl rfl rfl rfl (c_thr1 (m := (q_noThread m W t).2) (W := W) (c := 2) ) (by omega) ?_
      dsimp only [Option.toList, List.cons_append, List.nil_append]
      refine zeF1 rfl rfl (show zc1 .eq (Int32.ofNat 1) = false by decide) ?_
      refine zeKn (c := 0) rfl rfl rfl ?_
      exact zeRe rfl rfl rfl rfl (by simp only [q_thread, h1, h2, cond_true, cond_false] <;> rfl) (by simp only [q_thread, h1, h2, cond_true, cond_false] <;> rfl)
theorem c_thread {σ : Nat → Nat × (Nat → Int32)} {yy : (Nat → Nat → Int64) × Bool × Nat × Nat} {m : Nat → Nat → Int32} {W : Nat → Int32} {t : Int32} {x : Int32} (hw : WG W) : zF σ 4 1872 [.ref 137, .int t, .int x] (zS1, zrow m 138 W, yy) (.inl (some (.int (q_thread m W t x).1))) (zS1, zrow ((q_thread m W t x).2) 138 W, yy) := by
  intro d hd
  obtain ⟨d, rfl⟩ : ∃ k, d = k + 1 := ⟨d - 1, by omega⟩
  exact p_thread hd hw
noncomputable def q_blocks (m : Nat → Nat → Int32) (W : Nat → Int32) (t : Int32) (x : Int32) : Int32 × (Nat → Nat → Int32) := (bif zc1 .ne (q_noThread m W t).1 then ((Int32.ofNat 0), (q_noThread m W t).2) else (bif zc1 .ne (q_in x ((Int32.ofNat 0)) ((Int32.ofNat 1))) then (bif zc1 .ne x then ((q_of W ((t.toNatClampNeg)) 16), (q_noThread m W t).2) else ((q_of W ((t.toNatClampNeg)) 15), (q_noThread m W t).2)) else ((Int32.ofNat 0), (q_thr1 ((q_noThread m W t).2) 2).2)))
theorem p_blocks {σ : Nat → Nat × (Nat → Int32)} {yy : (Nat → Nat → Int64) × Bool × Nat × Nat} {m : Nat → Nat → Int32} {W : Nat → Int32} {t : Int32} {x : Int32} {d : Nat} (hd : 3 ≤ d + 1) (hw : WG W) : zEv σ (d + 1) 1874 0 [some (.ref 137), some (.int t), some (.int x)] [] (zS1, zrow m 138 W, yy) (.inl (some (.int (q_blocks m W t x).1))) (zS1, zrow ((q_blocks m W t x).2) 138 W, yy) := by
  refine zeP rfl rfl ?_
  refine zeP rfl rfl ?_
  refine zeCF rfl rfl rfl rfl rfl rfl (c_noThread (m := m) (W := W) (t := t) ) (by omega) ?_
  dsimp only [Option.toList, List.cons_append, List.nil_append]
  refine zeB1 rfl rfl (fun h1 => ?_) (fun h1 => ?_)
  · refine zeKn (c := 0) rfl rfl rfl ?_
    refine zeP rfl rfl ?_
    exact zeRe rfl rfl rfl rfl (by simp only [q_blocks, h1, cond_true, cond_false] <;> rfl) (by simp only [q_blocks, h1, cond_true, cond_false] <;> rfl)
  · have ct : t = Int32.ofNat t.toNatClampNeg ∧ t.toNatClampNeg < nv W 9 := (nT_in hw (by assumption))
    refine zeP rfl rfl ?_
    refine zeP rfl rfl ?_
    refine zeKn (c := 0) rfl rfl rfl ?_
    refine zeKn (c := 1) rfl rfl rfl ?_
    refine zeCF rfl rfl rfl rfl rfl rfl (c_in (m := (q_noThread m W t).2) (W := W) (v := x) (lo := (Int32.ofNat 0)) (hi := (Int32.ofNat 1)) ) (by omega) ?_
    dsimp only [Option.toList, List.cons_append, List.nil_append]
    refine zeB1 rfl rfl (fun h2 => ?_) (fun h2 => ?_)
    · refine zeKn (c := 0) rfl rfl rfl ?_
      refine zeKn (c := 2) rfl rfl rfl ?_
      refine zeCF rfl rfl rfl rfl rfl rfl (c_thr0 (m := (q_noThread m W t).2) (W := W) (c := 2) ) (by omega) ?_
      dsimp only [Option.toList, List.cons_append, List.nil_append]
      refine zeT1 rfl rfl (show zc1 .eq (Int32.ofNat 0) = true by decide) ?_
      refine zeP rfl rfl ?_
      refine zeKn (c := t.toNatClampNeg) rfl rfl ct.1 ?_
      refine zeP rfl rfl ?_
      refine zeB1 rfl rfl (fun h3 => ?_) (fun h3 => ?_)
      · refine zeKn (c := 16) rfl rfl rfl ?_
        refine zeCF rfl rfl rfl rfl rfl rfl (c_of (m := (q_noThread m W t).2) (W := W) (t := (t.toNatClampNeg)) (k := 16) (by have := hw.N4; omega)) (by omega) ?_
        dsimp only [Option.toList, List.cons_append, List.nil_append]
        exact zeRe rfl rfl rfl rfl (by simp only [q_blocks, h1, h2, h3, cond_true, cond_false] <;> rfl) (by simp only [q_blocks, h1, h2, h3, cond_true, cond_false] <;> rfl)
      · refine zeKn (c := 15) rfl rfl rfl ?_
        refine zeP rfl rfl ?_
        refine zeCF rfl rfl rfl rfl rfl rfl (c_of (m := (q_noThread m W t).2) (W := W) (t := (t.toNatClampNeg)) (k := 15) (by have := hw.N4; omega)) (by omega) ?_
        dsimp only [Option.toList, List.cons_append, List.nil_append]
        exact zeRe rfl rfl rfl rfl (by simp only [q_blocks, h1, h2, h3, cond_true, cond_false] <;> rfl) (by simp only [q_blocks, h1, h2, h3, cond_true, cond_false] <;> rfl)
    · refine zeKn (c := 1) rfl rfl rfl ?_
      refine zeP rfl rfl ?_
      refine zeKn (c := 2) rfl rfl rfl ?_
      refine zeCF rfl rfl rfl rfl rfl rfl (c_thr1 (m := (q_noThread m W t).2) (W := W) (c := 2) ) (by omega) ?_
      dsimp only [Option.toList, List.cons_append, List.nil_append]
      refine zeF1 rfl rfl (show zc1 .eq (Int32.ofNat 1) = false by decide) ?_
      refine zeKn (c := 0) rfl rfl rfl ?_
      refine zeP rfl rfl ?_
      exact zeRe rfl rfl rfl rfl (by simp only [q_blocks, h1, h2, cond_true, cond_false] <;> rfl) (by simp only [q_blocks, h1, h2, cond_true, cond_false] <;> rfl)
theorem c_blocks {σ : Nat → Nat × (Nat → Int32)} {yy : (Nat → Nat → Int64) × Bool × Nat × Nat} {m : Nat → Nat → Int32} {W : Nat → Int32} {t : Int32} {x : Int32} (hw : WG W) : zF σ 3 1874 [.ref 137, .int t, .int x] (zS1, zrow m 138 W, yy) (.inl (some (.int (q_blocks m W t x).1))) (zS1, zrow ((q_blocks m W t x).2) 138 W, yy) := by
  intro d hd
  obtain ⟨d, rfl⟩ : ∃ k, d = k + 1 := ⟨d - 1, by omega⟩
  exact p_blocks hd hw
noncomputable def q_noWord (m : Nat → Nat → Int32) (w : Int32) : Int32 × (Nat → Nat → Int32) := (bif zc1 .ne (q_in w ((Int32.ofNat 0)) ((Int32.ofNat 31))) then ((Int32.ofNat 0), m) else ((Int32.ofNat 1), (q_thr1 m 1).2))
theorem p_noWord {σ : Nat → Nat × (Nat → Int32)} {yy : (Nat → Nat → Int64) × Bool × Nat × Nat} {m : Nat → Nat → Int32} {W : Nat → Int32} {w : Int32} {d : Nat} (hd : 2 ≤ d + 1) : zEv σ (d + 1) 1876 0 [some (.ref 137), some (.int w)] [] (zS1, zrow m 138 W, yy) (.inl (some (.int (q_noWord m w).1))) (zS1, zrow ((q_noWord m w).2) 138 W, yy) := by
  refine zeP rfl rfl ?_
  refine zeP rfl rfl ?_
  refine zeKn (c := 0) rfl rfl rfl ?_
  refine zeKn (c := 31) rfl rfl rfl ?_
  refine zeCF rfl rfl rfl rfl rfl rfl (c_in (m := m) (W := W) (v := w) (lo := (Int32.ofNat 0)) (hi := (Int32.ofNat 31)) ) (by omega) ?_
  dsimp only [Option.toList, List.cons_append, List.nil_append]
  refine zeB1 rfl rfl (fun h1 => ?_) (fun h1 => ?_)
  · refine zeKn (c := 0) rfl rfl rfl ?_
    refine zeKn (c := 1) rfl rfl rfl ?_
    refine zeCF rfl rfl rfl rfl rfl rfl (c_thr0 (m := m) (W := W) (c := 1) ) (by omega) ?_
    dsimp only [Option.toList, List.cons_append, List.nil_append]
    exact zeRe rfl rfl rfl rfl (by simp only [q_noWord, h1, cond_true, cond_false] <;> rfl) (by simp only [q_noWord, h1, cond_true, cond_false] <;> rfl)
  · refine zeKn (c := 1) rfl rfl rfl ?_
    refine zeP rfl rfl ?_
    refine zeKn (c := 1) rfl rfl rfl ?_
    refine zeCF rfl rfl rfl rfl rfl rfl (c_thr1 (m := m) (W := W) (c := 1) ) (by omega) ?_
    dsimp only [Option.toList, List.cons_append, List.nil_append]
    exact zeRe rfl rfl rfl rfl (by simp only [q_noWord, h1, cond_true, cond_false] <;> rfl) (by simp only [q_noWord, h1, cond_true, cond_false] <;> rfl)
theorem c_noWord {σ : Nat → Nat × (Nat → Int32)} {yy : (Nat → Nat → Int64) × Bool × Nat × Nat} {m : Nat → Nat → Int32} {W : Nat → Int32} {w : Int32} : zF σ 2 1876 [.ref 137, .int w] (zS1, zrow m 138 W, yy) (.inl (some (.int (q_noWord m w).1))) (zS1, zrow ((q_noWord m w).2) 138 W, yy) := by
  intro d hd
  obtain ⟨d, rfl⟩ : ∃ k, d = k + 1 := ⟨d - 1, by omega⟩
  exact p_noWord hd 
noncomputable def q_term (m : Nat → Nat → Int32) (W : Nat → Int32) (x : Int32) : Int32 × (Nat → Nat → Int32) := (bif zc1 .ne (q_in x ((Int32.ofNat 0)) ((Int32.ofNat 8))) then ((W (x.toNatClampNeg)), (zm2 m 137 0 (Int32.ofNat 0))) else ((Int32.ofNat 0), (q_thr1 ((zm2 m 137 0 (Int32.ofNat 0))) 1).2))
theorem p_term {σ : Nat → Nat × (Nat → Int32)} {yy : (Nat → Nat → Int64) × Bool × Nat × Nat} {m : Nat → Nat → Int32} {W : Nat → Int32} {x : Int32} {d : Nat} (hd : 2 ≤ d + 1) : zEv σ (d + 1) 1881 0 [some (.ref 137), some (.int x)] [] (zS1, zrow m 138 W, yy) (.inl (some (.int (q_term m W x).1))) (zS1, zrow ((q_term m W x).2) 138 W, yy) := by
  refine zeP rfl rfl ?_
  refine zeKn (c := 0) rfl rfl rfl ?_
  refine zeFP rfl rfl rfl ?_
  refine zeP rfl rfl ?_
  refine zeP rfl rfl ?_
  refine zeKn (c := 0) rfl rfl rfl ?_
  refine zeKn (c := 8) rfl rfl rfl ?_
  refine zeCF rfl rfl rfl rfl rfl rfl (c_in (m := (zm2 m 137 0 (Int32.ofNat 0))) (W := W) (v := x) (lo := (Int32.ofNat 0)) (hi := (Int32.ofNat 8)) ) (by omega) ?_
  dsimp only [Option.toList, List.cons_append, List.nil_append]
  refine zeB1 rfl rfl (fun h1 => ?_) (fun h1 => ?_)
  · refine zeKn (c := 0) rfl rfl rfl ?_
    refine zeKn (c := 1) rfl rfl rfl ?_
    refine zeCF rfl rfl rfl rfl rfl rfl (c_thr0 (m := (zm2 m 137 0 (Int32.ofNat 0))) (W := W) (c := 1) ) (by omega) ?_
    dsimp only [Option.toList, List.cons_append, List.nil_append]
    refine zeT1 rfl rfl (show zc1 .eq (Int32.ofNat 0) = true by decide) ?_
    have cx : x = Int32.ofNat x.toNatClampNeg ∧ (0 ≤ x.toNatClampNeg ∧ x.toNatClampNeg ≤ 8) := (in_1 (by omega) (by omega) (by assumption))
    refine zeP rfl rfl ?_
    refine zeGR rfl rfl zS137 rfl rfl ?_
    refine zeKn (c := x.toNatClampNeg) rfl rfl cx.1 ?_
    refine zeWL (k := (x.toNatClampNeg)) rfl (by omega) ?_
    exact zeRe rfl rfl rfl rfl (by simp only [q_term, h1, cond_true, cond_false] <;> rfl) (by simp only [q_term, h1, cond_true, cond_false] <;> rfl)
  · refine zeKn (c := 1) rfl rfl rfl ?_
    refine zeP rfl rfl ?_
    refine zeKn (c := 1) rfl rfl rfl ?_
    refine zeCF rfl rfl rfl rfl rfl rfl (c_thr1 (m := (zm2 m 137 0 (Int32.ofNat 0))) (W := W) (c := 1) ) (by omega) ?_
    dsimp only [Option.toList, List.cons_append, List.nil_append]
    refine zeF1 rfl rfl (show zc1 .eq (Int32.ofNat 1) = false by decide) ?_
    refine zeKn (c := 0) rfl rfl rfl ?_
    refine zeP rfl rfl ?_
    exact zeRe rfl rfl rfl rfl (by simp only [q_term, h1, cond_true, cond_false] <;> rfl) (by simp only [q_term, h1, cond_true, cond_false] <;> rfl)
theorem c_term {σ : Nat → Nat × (Nat → Int32)} {yy : (Nat → Nat → Int64) × Bool × Nat × Nat} {m : Nat → Nat → Int32} {W : Nat → Int32} {x : Int32} : zF σ 2 1881 [.ref 137, .int x] (zS1, zrow m 138 W, yy) (.inl (some (.int (q_term m W x).1))) (zS1, zrow ((q_term m W x).2) 138 W, yy) := by
  intro d hd
  obtain ⟨d, rfl⟩ : ∃ k, d = k + 1 := ⟨d - 1, by omega⟩
  exact p_term hd 
noncomputable def q_seed (m : Nat → Nat → Int32) (W : Nat → Int32) (n : Int32) : Int32 × (Nat → Int32) × (Nat → Nat → Int32) := ((W 13), (upd W 13 n), (zm2 m 137 0 (Int32.ofNat 0)))
theorem p_seed {σ : Nat → Nat × (Nat → Int32)} {yy : (Nat → Nat → Int64) × Bool × Nat × Nat} {m : Nat → Nat → Int32} {W : Nat → Int32} {n : Int32} {d : Nat} (hd : 1 ≤ d + 1) : zEv σ (d + 1) 1870 0 [some (.ref 137), some (.int n), none] [] (zS1, zrow m 138 W, yy) (.inl (some (.int (q_seed m W n).1))) (zS1, zrow ((q_seed m W n).2.2) 138 ((q_seed m W n).2.1), yy) := by
  refine zeP rfl rfl ?_
  refine zeKn (c := 0) rfl rfl rfl ?_
  refine zeFP rfl rfl rfl ?_
  refine zeP rfl rfl ?_
  refine zeGR rfl rfl zS137 rfl rfl ?_
  refine zeKn (c := 13) rfl rfl rfl ?_
  refine zeWL (k := 13) rfl (by omega) ?_
  refine zeP rfl rfl ?_
  refine zeP rfl rfl ?_
  refine zeGR rfl rfl zS137 rfl rfl ?_
  refine zeKn (c := 13) rfl rfl rfl ?_
  refine zeP rfl rfl ?_
  refine zeWS (k := 13) rfl (by omega) ?_
  refine zeP rfl rfl ?_
  exact zeRe rfl rfl rfl rfl (by rfl) (by rfl)
theorem c_seed {σ : Nat → Nat × (Nat → Int32)} {yy : (Nat → Nat → Int64) × Bool × Nat × Nat} {m : Nat → Nat → Int32} {W : Nat → Int32} {n : Int32} : zF σ 1 1870 [.ref 137, .int n] (zS1, zrow m 138 W, yy) (.inl (some (.int (q_seed m W n).1))) (zS1, zrow ((q_seed m W n).2.2) 138 ((q_seed m W n).2.1), yy) := by
  intro d hd
  obtain ⟨d, rfl⟩ : ∃ k, d = k + 1 := ⟨d - 1, by omega⟩
  exact p_seed hd 
end
