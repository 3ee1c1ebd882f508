def q_holds (s : Int32) (k : Nat) : Int32 := (bif zc2 .ne ((s.toUInt32 >>> (((Int32.ofNat k)).toUInt32 &&& Int32.toUInt32 31)).toInt32 &&& (Int32.ofNat 1)) (Int32.ofNat 1) then (Int32.ofNat 0) else (Int32.ofNat 1))
theorem p_holds {σ : Nat → Nat × (Nat → Int32)} {yy : (Nat → Nat → Int64) × Bool × Nat × Nat} {m : Nat → Nat → Int32} {W : Nat → Int32} {s : Int32} {k : Nat} {d : Nat} (hd : 1 ≤ d + 1) : zEv σ (d + 1) 1803 0 [some (.int s), some (.int (Int32.ofNat k))] [] (zS1, zrow m 138 W, yy) (.inl (some (.int (q_holds s k)))) (zS1, zrow m 138 W, yy) := by
  refine zeP rfl rfl ?_
  refine zeP rfl rfl ?_
  refine zeP rfl rfl ?_
  refine zeKn (c := 1) rfl rfl rfl ?_
  refine zeP rfl rfl ?_
  refine zeKn (c := 1) rfl rfl rfl ?_
  refine zeB2 rfl rfl (fun h1 => ?_) (fun h1 => ?_)
  · refine zeKn (c := 0) rfl rfl rfl ?_
    exact zeRe rfl rfl rfl rfl (by simp only [q_holds, h1, cond_true, cond_false] <;> rfl) (by simp only [q_holds, h1, cond_true, cond_false] <;> rfl)
  · refine zeKn (c := 1) rfl rfl rfl ?_
    refine zeP rfl rfl ?_
    exact zeRe rfl rfl rfl rfl (by simp only [q_holds, h1, cond_true, cond_false] <;> rfl) (by simp only [q_holds, h1, cond_true, cond_false] <;> rfl)
theorem c_holds {σ : Nat → Nat × (Nat → Int32)} {yy : (Nat → Nat → Int64) × Bool × Nat × Nat} {m : Nat → Nat → Int32} {W : Nat → Int32} {s : Int32} {k : Nat} : zF σ 1 1803 [.int s, .int (Int32.ofNat k)] (zS1, zrow m 138 W, yy) (.inl (some (.int (q_holds s k)))) (zS1, zrow m 138 W, yy) := by
  intro d hd
  obtain ⟨d, rfl⟩ : ∃ k, d = k + 1 := ⟨d - 1, by omega⟩
  exact p_holds hd 
def q_in (v : Int32) (lo : Int32) (hi : Int32) : Int32 := (bif zc2 .lt v lo then (Int32.ofNat 0) else (bif zc2 .gt v hi then (Int32.ofNat 0) else (Int32.ofNat 1)))
theorem p_in {σ : Nat → Nat × (Nat → Int32)} {yy : (Nat → Nat → Int64) × Bool × Nat × Nat} {m : Nat → Nat → Int32} {W : Nat → Int32} {v : Int32} {lo : Int32} {hi : Int32} {d : Nat} (hd : 1 ≤ d + 1) : zEv σ (d + 1) 1802 0 [some (.int v), some (.int lo), some (.int hi)] [] (zS1, zrow m 138 W, yy) (.inl (some (.int (q_in v lo hi)))) (zS1, zrow m 138 W, yy) := by
  refine zeP rfl rfl ?_
  refine zeP rfl rfl ?_
  refine zeB2 rfl rfl (fun h1 => ?_) (fun h1 => ?_)
  · refine zeKn (c := 0) rfl rfl rfl ?_
    exact zeRe rfl rfl rfl rfl (by simp only [q_in, h1, cond_true, cond_false] <;> rfl) (by simp only [q_in, h1, cond_true, cond_false] <;> rfl)
  · refine zeP rfl rfl ?_
    refine zeP rfl rfl ?_
    refine zeB2 rfl rfl (fun h2 => ?_) (fun h2 => ?_)
    · refine zeKn (c := 0) rfl rfl rfl ?_
      exact zeRe rfl rfl rfl rfl (by simp only [q_in, h1, h2, cond_true, cond_false] <;> rfl) (by simp only [q_in, h1, h2, cond_true, cond_false] <;> rfl)
    · refine zeKn (c := 1) rfl rfl rfl ?_
      refine zeP rfl rfl ?_
      exact zeRe rfl rfl rfl rfl (by simp only [q_in, h1, h2, cond_true, cond_false] <;> rfl) (by simp only [q_in, h1, h2, cond_true, cond_false] <;> rfl)
theorem c_in {σ : Nat → Nat × (Nat → Int32)} {yy : (Nat → Nat → Int64) × Bool × Nat × Nat} {m : Nat → Nat → Int32} {W : Nat → Int32} {v : Int32} {lo : Int32} {hi : Int32} : zF σ 1 1802 [.int v, .int lo, .int hi] (zS1, zrow m 138 W, yy) (.inl (some (.int (q_in v lo hi)))) (zS1, zrow m 138 W, yy) := by
  intro d hd
  obtain ⟨d, rfl⟩ : ∃ k, d = k + 1 := ⟨d - 1, by omega⟩
  exact p_in hd 
def q_throwsIf (m : Nat → Nat → Int32) (b : Int32) (c : Nat) : Int32 × (Nat → Nat → Int32) := (bif zc1 .eq b then (b, m) else (b, (zm2 m 137 0 (Int32.ofNat c))))
theorem p_throwsIf {σ : Nat → Nat × (Nat → Int32)} {yy : (Nat → Nat → Int64) × Bool × Nat × Nat} {m : Nat → Nat → Int32} {W : Nat → Int32} {b : Int32} {c : Nat} {d : Nat} (hd : 1 ≤ d + 1) (hb : b = 0 ∨ b = 1) : zEv σ (d + 1) 1801 0 [some (.ref 137), some (.int b), some (.int (Int32.ofNat c))] [] (zS1, zrow m 138 W, yy) (.inl (some (.int (q_throwsIf m b c).1))) (zS1, zrow ((q_throwsIf m b c).2) 138 W, yy) := by
  refine zeP rfl rfl ?_
  refine zeB1 rfl rfl (fun h1 => ?_) (fun h1 => ?_)
  · refine zeP rfl rfl ?_
    exact zeRe rfl rfl rfl (zretB rfl rfl hb) (by simp only [q_throwsIf, h1, cond_true, cond_false] <;> rfl) (by simp only [q_throwsIf, h1, cond_true, cond_false] <;> rfl)
  · refine zeP rfl rfl ?_
    refine zeP rfl rfl ?_
    refine zeFP rfl rfl rfl ?_
    refine zeP rfl rfl ?_
    exact zeRe rfl rfl rfl (zretB rfl rfl hb) (by simp only [q_throwsIf, h1, cond_true, cond_false] <;> rfl) (by simp only [q_throwsIf, h1, cond_true, cond_false] <;> rfl)
theorem c_throwsIf {σ : Nat → Nat × (Nat → Int32)} {yy : (Nat → Nat → Int64) × Bool × Nat × Nat} {m : Nat → Nat → Int32} {W : Nat → Int32} {b : Int32} {c : Nat} (hb : b = 0 ∨ b = 1) : zF σ 1 1801 [.ref 137, .int b, .int (Int32.ofNat c)] (zS1, zrow m 138 W, yy) (.inl (some (.int (q_throwsIf m b c).1))) (zS1, zrow ((q_throwsIf m b c).2) 138 W, yy) := by
  intro d hd
  obtain ⟨d, rfl⟩ : ∃ k, d = k + 1 := ⟨d - 1, by omega⟩
  exact p_throwsIf hd hb
def q_threads (W : Nat → Int32) : Int32 := (W 9)
theorem p_threads {σ : Nat → Nat × (Nat → Int32)} {yy : (Nat → Nat → Int64) × Bool × Nat × Nat} {m : Nat → Nat → Int32} {W : Nat → Int32} {d : Nat} (hd : 1 ≤ d + 1) : zEv σ (d + 1) 1809 0 [some (.ref 137)] [] (zS1, zrow m 138 W, yy) (.inl (some (.int (q_threads W)))) (zS1, zrow m 138 W, yy) := by
  refine zeP rfl rfl ?_
  refine zeGR rfl rfl zS137 rfl rfl ?_
  refine zeKn (c := 9) rfl rfl rfl ?_
  refine zeWL (k := 9) rfl (by omega) ?_
  exact zeRe rfl rfl rfl rfl (by rfl) (by rfl)
theorem c_threads {σ : Nat → Nat × (Nat → Int32)} {yy : (Nat → Nat → Int64) × Bool × Nat × Nat} {m : Nat → Nat → Int32} {W : Nat → Int32} : zF σ 1 1809 [.ref 137] (zS1, zrow m 138 W, yy) (.inl (some (.int (q_threads W)))) (zS1, zrow m 138 W, yy) := by
  intro d hd
  obtain ⟨d, rfl⟩ : ∃ k, d = k + 1 := ⟨d - 1, by omega⟩
  exact p_threads hd 
def q_at (t : Nat) (k : Nat) : Int32 := (Int32.ofNat ((376 + (103 * t)) + k))
theorem p_at {σ : Nat → Nat × (Nat → Int32)} {yy : (Nat → Nat → Int64) × Bool × Nat × Nat} {m : Nat → Nat → Int32} {W : Nat → Int32} {t : Nat} {k : Nat} {d : Nat} (hd : 1 ≤ d + 1) : zEv σ (d + 1) 1810 0 [some (.int (Int32.ofNat t)), some (.int (Int32.ofNat k))] [] (zS1, zrow m 138 W, yy) (.inl (some (.int (q_at t k)))) (zS1, zrow m 138 W, yy) := by
  refine zeKn (c := 376) rfl rfl rfl ?_
  refine zeKn (c := 103) rfl rfl rfl ?_
  refine zeP rfl rfl ?_
  refine zeMul rfl ?_
  refine zeAdd rfl ?_
  refine zeP rfl rfl ?_
  refine zeAdd rfl ?_
  exact zeRe rfl rfl rfl rfl (by rfl) (by rfl)
theorem c_at {σ : Nat → Nat × (Nat → Int32)} {yy : (Nat → Nat → Int64) × Bool × Nat × Nat} {m : Nat → Nat → Int32} {W : Nat → Int32} {t : Nat} {k : Nat} : zF σ 1 1810 [.int (Int32.ofNat t), .int (Int32.ofNat k)] (zS1, zrow m 138 W, yy) (.inl (some (.int (q_at t k)))) (zS1, zrow m 138 W, yy) := by
  intro d hd
  obtain ⟨d, rfl⟩ : ∃ k, d = k + 1 := ⟨d - 1, by omega⟩
  exact p_at hd 
def q_of (W : Nat → Int32) (t : Nat) (k : Nat) : Int32 := (W (376 + 103 * t + k))
theorem p_of {σ : Nat → Nat × (Nat → Int32)} {yy : (Nat → Nat → Int64) × Bool × Nat × Nat} {m : Nat → Nat → Int32} {W : Nat → Int32} {t : Nat} {k : Nat} {d : Nat} (hd : 2 ≤ d + 1) (hk : 376 + 103 * t + k < 788) : zEv σ (d + 1) 1811 0 [some (.ref 137), some (.int (Int32.ofNat t)), some (.int (Int32.ofNat k))] [] (zS1, zrow m 138 W, yy) (.inl (some (.int (q_of W t k)))) (zS1, zrow m 138 W, yy) := by
  refine zeP rfl rfl ?_
  refine zeGR rfl rfl zS137 rfl rfl ?_
  refine zeP rfl rfl ?_
  refine zeP rfl rfl ?_
  refine zeCF rfl rfl rfl rfl rfl rfl (c_at (m := m) (W := W) (t := t) (k := k) ) (by omega) ?_
  dsimp only [Option.toList, List.cons_append, List.nil_append]
  refine zeWL (k := (376 + 103 * t + k)) rfl (by omega) ?_
  exact zeRe rfl rfl rfl rfl (by rfl) (by rfl)
theorem c_of {σ : Nat → Nat × (Nat → Int32)} {yy : (Nat → Nat → Int64) × Bool × Nat × Nat} {m : Nat → Nat → Int32} {W : Nat → Int32} {t : Nat} {k : Nat} (hk : 376 + 103 * t + k < 788) : zF σ 2 1811 [.ref 137, .int (Int32.ofNat t), .int (Int32.ofNat k)] (zS1, zrow m 138 W, yy) (.inl (some (.int (q_of W t k)))) (zS1, zrow m 138 W, yy) := by
  intro d hd
  obtain ⟨d, rfl⟩ : ∃ k, d = k + 1 := ⟨d - 1, by omega⟩
  exact p_of hd hk
def q_isDone (W : Nat → Int32) (t : Nat) : Int32 := (bif zc2 .ne (q_of W t 0) (q_of W t 22) then (Int32.ofNat 0) else (Int32.ofNat 1))
theorem p_isDone {σ : Nat → Nat × (Nat → Int32)} {yy : (Nat → Nat → Int64) × Bool × Nat × Nat} {m : Nat → Nat → Int32} {W : Nat → Int32} {t : Nat} {d : Nat} (hd : 3 ≤ d + 1) (ht : t < 4) : zEv σ (d + 1) 1812 0 [some (.ref 137), some (.int (Int32.ofNat t))] [] (zS1, zrow m 138 W, yy) (.inl (some (.int (q_isDone W t)))) (zS1, zrow m 138 W, yy) := by
  refine zeP rfl rfl ?_
  refine zeP rfl rfl ?_
  refine zeKn (c := 0) rfl rfl rfl ?_
  refine zeCF rfl rfl rfl rfl rfl rfl (c_of (m := m) (W := W) (t := t) (k := 0) (by first | assumption | omega)) (by omega) ?_
  dsimp only [Option.toList, List.cons_append, List.nil_append]
  refine zeP rfl rfl ?_
  refine zeP rfl rfl ?_
  refine zeKn (c := 22) rfl rfl rfl ?_
  refine zeCF rfl rfl rfl rfl rfl rfl (c_of (m := m) (W := W) (t := t) (k := 22) (by first | assumption | omega)) (by omega) ?_
  dsimp only [Option.toList, List.cons_append, List.nil_append]
  refine zeB2 rfl rfl (fun h1 => ?_) (fun h1 => ?_)
  · refine zeKn (c := 0) rfl rfl rfl ?_
    exact zeRe rfl rfl rfl rfl (by simp only [q_isDone, h1, cond_true, cond_false] <;> rfl) (by simp only [q_isDone, h1, cond_true, cond_false] <;> rfl)
  · refine zeKn (c := 1) rfl rfl rfl ?_
    refine zeP rfl rfl ?_
    exact zeRe rfl rfl rfl rfl (by simp only [q_isDone, h1, cond_true, cond_false] <;> rfl) (by simp only [q_isDone, h1, cond_true, cond_false] <;> rfl)
theorem c_isDone {σ : Nat → Nat × (Nat → Int32)} {yy : (Nat → Nat → Int64) × Bool × Nat × Nat} {m : Nat → Nat → Int32} {W : Nat → Int32} {t : Nat} (ht : t < 4) : zF σ 3 1812 [.ref 137, .int (Int32.ofNat t)] (zS1, zrow m 138 W, yy) (.inl (some (.int (q_isDone W t)))) (zS1, zrow m 138 W, yy) := by
  intro d hd
  obtain ⟨d, rfl⟩ : ∃ k, d = k + 1 := ⟨d - 1, by omega⟩
  exact p_isDone hd ht
def q_deedOf (W : Nat → Int32) (t : Nat) (p : Nat) (k : Nat) : Int32 := (q_of W t (((55 + (2 * p)) + k)))
theorem p_deedOf {σ : Nat → Nat × (Nat → Int32)} {yy : (Nat → Nat → Int64) × Bool × Nat × Nat} {m : Nat → Nat → Int32} {W : Nat → Int32} {t : Nat} {p : Nat} {k : Nat} {d : Nat} (hd : 3 ≤ d + 1) (ht : 376 + 103 * t + (55 + 2 * p + k) < 788) : zEv σ (d + 1) 1813 0 [some (.ref 137), some (.int (Int32.ofNat t)), some (.int (Int32.ofNat p)), some (.int (Int32.ofNat k))] [] (zS1, zrow m 138 W, yy) (.inl (some (.int (q_deedOf W t p k)))) (zS1, zrow m 138 W, yy) := by
  refine zeP rfl rfl ?_
  refine zeP rfl rfl ?_
  refine zeKn (c := 55) rfl rfl rfl ?_
  refine zeKn (c := 2) rfl rfl rfl ?_
  refine zeP rfl rfl ?_
  refine zeMul rfl ?_
  refine zeAdd rfl ?_
  refine zeP rfl rfl ?_
  refine zeAdd rfl ?_
  refine zeCF rfl rfl rfl rfl rfl rfl (c_of (m := m) (W := W) (t := t) (k := ((55 + (2 * p)) + k)) (by first | assumption | omega)) (by omega) ?_
  dsimp only [Option.toList, List.cons_append, List.nil_append]
  exact zeRe rfl rfl rfl rfl (by rfl) (by rfl)
theorem c_deedOf {σ : Nat → Nat × (Nat → Int32)} {yy : (Nat → Nat → Int64) × Bool × Nat × Nat} {m : Nat → Nat → Int32} {W : Nat → Int32} {t : Nat} {p : Nat} {k : Nat} (ht : 376 + 103 * t + (55 + 2 * p + k) < 788) : zF σ 3 1813 [.ref 137, .int (Int32.ofNat t), .int (Int32.ofNat p), .int (Int32.ofNat k)] (zS1, zrow m 138 W, yy) (.inl (some (.int (q_deedOf W t p k)))) (zS1, zrow m 138 W, yy) := by
  intro d hd
  obtain ⟨d, rfl⟩ : ∃ k, d = k + 1 := ⟨d - 1, by omega⟩
  exact p_deedOf hd ht
def q_blockOf (W : Nat → Int32) (w : Int32) : Int32 := ((Int32.ofNat 1) <<< ((w / (W 0)) &&& 31))
theorem p_blockOf {σ : Nat → Nat × (Nat → Int32)} {yy : (Nat → Nat → Int64) × Bool × Nat × Nat} {m : Nat → Nat → Int32} {W : Nat → Int32} {w : Int32} {d : Nat} (hd : 1 ≤ d + 1) (hz : ¬ W 0 = 0) : zEv σ (d + 1) 1814 0 [some (.ref 137), some (.int w)] [] (zS1, zrow m 138 W, yy) (.inl (some (.int (q_blockOf W w)))) (zS1, zrow m 138 W, yy) := by
  refine zeKn (c := 1) rfl rfl rfl ?_
  refine zeP rfl rfl ?_
  refine zeP rfl rfl ?_
  refine zeGR rfl rfl zS137 rfl rfl ?_
  refine zeKn (c := 0) rfl rfl rfl ?_
  refine zeWL (k := 0) rfl (by omega) ?_
  refine zeDiv rfl hz ?_
  refine zeP rfl rfl ?_
  exact zeRe rfl rfl rfl rfl (by rfl) (by rfl)
theorem c_blockOf {σ : Nat → Nat × (Nat → Int32)} {yy : (Nat → Nat → Int64) × Bool × Nat × Nat} {m : Nat → Nat → Int32} {W : Nat → Int32} {w : Int32} (hz : ¬ W 0 = 0) : zF σ 1 1814 [.ref 137, .int w] (zS1, zrow m 138 W, yy) (.inl (some (.int (q_blockOf W w)))) (zS1, zrow m 138 W, yy) := by
  intro d hd
  obtain ⟨d, rfl⟩ : ∃ k, d = k + 1 := ⟨d - 1, by omega⟩
  exact p_blockOf hd hz
def q_ends (W : Nat → Int32) (t : Nat) : (Nat → Int32) := (upd ((upd ((upd ((upd ((upd W (376 + 103 * t + 2) (Int32.ofNat 0))) (376 + 103 * t + 10) (Int32.ofNat 0))) (376 + 103 * t + 15) (Int32.ofNat 0))) (376 + 103 * t + 16) (Int32.ofNat 0))) (376 + 103 * t + 17) (Int32.ofNat 0))
theorem p_ends {σ : Nat → Nat × (Nat → Int32)} {yy : (Nat → Nat → Int64) × Bool × Nat × Nat} {m : Nat → Nat → Int32} {W : Nat → Int32} {t : Nat} {d : Nat} (hd : 2 ≤ d + 1) (ht : t < 4) : zEv σ (d + 1) 1816 0 [some (.ref 137), some (.int (Int32.ofNat t))] [] (zS1, zrow m 138 W, yy) (.inl none) (zS1, zrow m 138 ((q_ends W t)), yy) := by
  refine zeP rfl rfl ?_
  refine zeGR rfl rfl zS137 rfl rfl ?_
  refine zeP rfl rfl ?_
  refine zeKn (c := 2) rfl rfl rfl ?_
  refine zeCF rfl rfl rfl rfl rfl rfl (c_at (m := m) (W := W) (t := t) (k := 2) ) (by omega) ?_
  dsimp only [Option.toList, List.cons_append, List.nil_append]
  refine zeKn (c := 0) rfl rfl rfl ?_
  refine zeWS (k := (376 + 103 * t + 2)) rfl (by omega) ?_
  refine zeP rfl rfl ?_
  refine zeGR rfl rfl zS137 rfl rfl ?_
  refine zeP rfl rfl ?_
  refine zeKn (c := 10) rfl rfl rfl ?_
  refine zeCF rfl rfl rfl rfl rfl rfl (c_at (m := m) (W := (upd W (376 + 103 * t + 2) (Int32.ofNat 0))) (t := t) (k := 10) ) (by omega) ?_
  dsimp only [Option.toList, List.cons_append, List.nil_append]
  refine zeKn (c := 0) rfl rfl rfl ?_
  refine zeWS (k := (376 + 103 * t + 10)) rfl (by omega) ?_
  refine zeP rfl rfl ?_
  refine zeGR rfl rfl zS137 rfl rfl ?_
  refine zeP rfl rfl ?_
  refine zeKn (c := 15) rfl rfl rfl ?_
  refine zeCF rfl rfl rfl rfl rfl rfl (c_at (m := m) (W := (upd ((upd W (376 + 103 * t + 2) (Int32.ofNat 0))) (376 + 103 * t + 10) (Int32.ofNat 0))) (t := t) (k := 15) ) (by omega) ?_
  dsimp only [Option.toList, List.cons_append, List.nil_append]
  refine zeKn (c := 0) rfl rfl rfl ?_
  refine zeWS (k := (376 + 103 * t + 15)) rfl (by omega) ?_
  refine zeP rfl rfl ?_
  refine zeGR rfl rfl zS137 rfl rfl ?_
  refine zeP rfl rfl ?_
  refine zeKn (c := 16) rfl rfl rfl ?_
  refine zeCF rfl rfl rfl rfl rfl rfl (c_at (m := m) (W := (upd ((upd ((upd W (376 + 103 * t + 2) (Int32.ofNat 0))) (376 + 103 * t + 10) (Int32.ofNat 0))) (376 + 103 * t + 15) (Int32.ofNat 0))) (t := t) (k := 16) ) (by omega) ?_
  dsimp only [Option.toList, List.cons_append, List.nil_append]
  refine zeKn (c := 0) rfl rfl rfl ?_
  refine zeWS (k := (376 + 103 * t + 16)) rfl (by omega) ?_
  refine zeP rfl rfl ?_
  refine zeGR rfl rfl zS137 rfl rfl ?_
  refine zeP rfl rfl ?_
  refine zeKn (c := 17) rfl rfl rfl ?_
  refine zeCF rfl rfl rfl rfl rfl rfl (c_at (m := m) (W := (upd ((upd ((upd ((upd W (376 + 103 * t + 2) (Int32.ofNat 0))) (376 + 103 * t + 10) (Int32.ofNat 0))) (376 + 103 * t + 15) (Int32.ofNat 0))) (376 + 103 * t + 16) (Int32.ofNat 0))) (t := t) (k := 17) ) (by omega) ?_
  dsimp only [Option.toList, List.cons_append, List.nil_append]
  refine zeKn (c := 0) rfl rfl rfl ?_
  refine zeWS (k := (376 + 103 * t + 17)) rfl (by omega) ?_
  exact zeRe rfl rfl rfl rfl (by rfl) (by rfl)
theorem c_ends {σ : Nat → Nat × (Nat → Int32)} {yy : (Nat → Nat → Int64) × Bool × Nat × Nat} {m : Nat → Nat → Int32} {W : Nat → Int32} {t : Nat} (ht : t < 4) : zF σ 2 1816 [.ref 137, .int (Int32.ofNat t)] (zS1, zrow m 138 W, yy) (.inl none) (zS1, zrow m 138 ((q_ends W t)), yy) := by
  intro d hd
  obtain ⟨d, rfl⟩ : ∃ k, d = k + 1 := ⟨d - 1, by omega⟩
  exact p_ends hd ht
def l_bits (s : Int32) : Nat → Int32 → Nat → Int32
  | 0, c, k => c
  | n + 1, c, k => (l_bits s n ((c + ((s.toUInt32 >>> (((Int32.ofNat k)).toUInt32 &&& Int32.toUInt32 31)).toInt32 &&& (Int32.ofNat 1)))) ((k + 1)))
theorem w_bits {σ : Nat → Nat × (Nat → Int32)} {yy : (Nat → Nat → Int64) × Bool × Nat × Nat} {m : Nat → Nat → Int32} {W : Nat → Int32} {s : Int32} {d : Nat} (hd : 1 ≤ d + 1) : ∀ (n : Nat) (c : Int32) (k : Nat), k + n = 32 → zEv σ (d + 1) 1804 4 [some (.int s), some (.int c), some (.int (Int32.ofNat k))] [] (zS1, zrow m 138 W, yy) (.inl (some (.int (l_bits s n c k)))) (zS1, zrow m 138 W, yy) := by
  intro n
  induction n with
  | zero =>
    intro c k hk
    refine zeP rfl rfl ?_
    refine zeKn (c := 32) rfl rfl rfl ?_
    refine zeT2 rfl rfl (zcge (by omega) (by omega) (by omega)) ?_
    refine zeP rfl rfl ?_
    exact zeRe rfl rfl rfl rfl (by rfl) (by rfl)
  | succ n ih =>
    intro c k hk
    refine zeP rfl rfl ?_
    refine zeKn (c := 32) rfl rfl rfl ?_
    refine zeF2 rfl rfl (zcge_f (by omega) (by omega) (by omega)) ?_
    refine zeP rfl rfl ?_
    refine zeP rfl rfl ?_
    refine zeP rfl rfl ?_
    refine zeP rfl rfl ?_
    refine zeKn (c := 1) rfl rfl rfl ?_
    refine zeP rfl rfl ?_
    refine zeP rfl rfl ?_
    refine zeP rfl rfl ?_
    refine zeInc rfl rfl ?_
    refine zeP rfl rfl ?_
    simp only [l_bits, cond_true, cond_false]
    exact ih ((c + ((s.toUInt32 >>> (((Int32.ofNat k)).toUInt32 &&& Int32.toUInt32 31)).toInt32 &&& (Int32.ofNat 1)))) ((k + 1))   (by omega) 
def q_bits (s : Int32) : Int32 := (l_bits s 32 ((Int32.ofNat 0)) 0)
theorem p_bits {σ : Nat → Nat × (Nat → Int32)} {yy : (Nat → Nat → Int64) × Bool × Nat × Nat} {m : Nat → Nat → Int32} {W : Nat → Int32} {s : Int32} {d : Nat} (hd : 1 ≤ d + 1) : zEv σ (d + 1) 1804 0 [some (.int s), none, none] [] (zS1, zrow m 138 W, yy) (.inl (some (.int (q_bits s)))) (zS1, zrow m 138 W, yy) := by
  refine zeKn (c := 0) rfl rfl rfl ?_
  refine zeP rfl rfl ?_
  refine zeKn (c := 0) rfl rfl rfl ?_
  refine zeP rfl rfl ?_
  simp only [q_bits, cond_true, cond_false]
  exact w_bits (s := s) (W := W) (m := m) (by omega)  32 ((Int32.ofNat 0)) (0)   (by omega) 
theorem c_bits {σ : Nat → Nat × (Nat → Int32)} {yy : (Nat → Nat → Int64) × Bool × Nat × Nat} {m : Nat → Nat → Int32} {W : Nat → Int32} {s : Int32} : zF σ 1 1804 [.int s] (zS1, zrow m 138 W, yy) (.inl (some (.int (q_bits s)))) (zS1, zrow m 138 W, yy) := by
  intro d hd
  obtain ⟨d, rfl⟩ : ∃ k, d = k + 1 := ⟨d - 1, by omega⟩
  exact p_bits hd 
