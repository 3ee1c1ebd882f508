noncomputable def q_putsWhole (m : Nat → Nat → Int32) (b : Nat) (t : Nat) (O : Nat) : (Nat → Nat → Int32) := (bif zc2 .ne (Int32.ofNat O) (Int32.ofNat 20) then (zm2 ((zm2 ((zm2 m 143 (((b + 41) + (2 * O))) ((Int32.ofNat t)))) 143 ((((b + 41) + (2 * O)) + 1)) ((((zm2 m 143 (((b + 41) + (2 * O))) ((Int32.ofNat t)))) 143 (((b + 32) + t)))))) 143 ((b + 40)) ((Int32.ofNat (O + 1)))) else m)
theorem p_putsWhole {σ : Nat → Nat × (Nat → Int32)} {yy : (Nat → Nat → Int64) × Bool × Nat × Nat} {m : Nat → Nat → Int32} {W : Nat → Int32} {b : Nat} {t : Nat} {O : Nat} {d : Nat} (hd : 1 ≤ d + 1) (hO : m 143 (b + 40) = Int32.ofNat O) (hO2 : O ≤ 20) (hb : b + 81 ≤ 891) (ht : t < 4) : zEv σ (d + 1) 1903 0 [some (.ref 137), some (.int (Int32.ofNat b)), some (.int (Int32.ofNat t)), none] [] (zS1, zrow m 138 W, yy) (.inl none) (zS1, zrow ((q_putsWhole m b t O)) 138 W, yy) := by
  refine zeP rfl rfl ?_
  refine zeGR rfl rfl zS137 rfl rfl ?_
  refine zeP rfl rfl ?_
  refine zeKn (c := 40) rfl rfl rfl ?_
  refine zeAdd rfl ?_
  refine zeQL (a := 143) (k := (b + 40)) rfl rfl (by decide) rfl rfl (by omega) ?_
  rw [hO]
  refine zeP rfl rfl ?_
  refine zeP rfl rfl ?_
  refine zeKn (c := 20) rfl rfl rfl ?_
  refine zeB2 rfl rfl (fun h1 => ?_) (fun h1 => ?_)
  · refine zeP rfl rfl ?_
    refine zeGR rfl rfl zS137 rfl rfl ?_
    refine zeP rfl rfl ?_
    refine zeKn (c := 41) rfl rfl rfl ?_
    refine zeAdd rfl ?_
    refine zeKn (c := 2) rfl rfl rfl ?_
    refine zeP rfl rfl ?_
    refine zeMul rfl ?_
    refine zeAdd rfl ?_
    refine zeP rfl rfl ?_
    refine zeQS (a := 143) (k := ((b + 41) + (2 * O))) rfl (by decide) rfl rfl (by have := tne_t h1; omega) ?_
    refine zeP rfl rfl ?_
    refine zeGR rfl rfl zS137 rfl rfl ?_
    refine zeP rfl rfl ?_
    refine zeKn (c := 41) rfl rfl rfl ?_
    refine zeAdd rfl ?_
    refine zeKn (c := 2) rfl rfl rfl ?_
    refine zeP rfl rfl ?_
    refine zeMul rfl ?_
    refine zeAdd rfl ?_
    refine zeKn (c := 1) rfl rfl rfl ?_
    refine zeAdd rfl ?_
    refine zeP rfl rfl ?_
    refine zeGR rfl rfl zS137 rfl rfl ?_
    refine zeP rfl rfl ?_
    refine zeKn (c := 32) rfl rfl rfl ?_
    refine zeAdd rfl ?_
    refine zeP rfl rfl ?_
    refine zeAdd rfl ?_
    refine zeQL (a := 143) (k := ((b + 32) + t)) rfl rfl (by decide) rfl rfl (by omega) ?_
    refine zeQS (a := 143) (k := (((b + 41) + (2 * O)) + 1)) rfl (by decide) rfl rfl (by have := tne_t h1; omega) ?_
    refine zeP rfl rfl ?_
    refine zeGR rfl rfl zS137 rfl rfl ?_
    refine zeP rfl rfl ?_
    refine zeKn (c := 40) rfl rfl rfl ?_
    refine zeAdd rfl ?_
    refine zeP rfl rfl ?_
    refine zeQL (a := 143) (k := (b + 40)) rfl rfl (by decide) rfl rfl (by omega) ?_
    rw [(show (zm2 ((zm2 m 143 (((b + 41) + (2 * O))) ((Int32.ofNat t)))) 143 ((((b + 41) + (2 * O)) + 1)) ((((zm2 m 143 (((b + 41) + (2 * O))) ((Int32.ofNat t)))) 143 (((b + 32) + t))))) 143 (b + 40) = Int32.ofNat O by rw [zm2_k _ _ (by omega), zm2_k _ _ (by omega)]; exact hO)]
    refine zeKn (c := 1) rfl rfl rfl ?_
    refine zeAdd rfl ?_
    refine zeQS (a := 143) (k := (b + 40)) rfl (by decide) rfl rfl (by omega) ?_
    exact zeRe rfl rfl rfl rfl (by simp only [q_putsWhole, h1, cond_true, cond_false] <;> rfl) (by simp only [q_putsWhole, h1, cond_true, cond_false] <;> rfl)
  · exact zeRe rfl rfl rfl rfl (by simp only [q_putsWhole, h1, cond_true, cond_false] <;> rfl) (by simp only [q_putsWhole, h1, cond_true, cond_false] <;> rfl)
theorem c_putsWhole {σ : Nat → Nat × (Nat → Int32)} {yy : (Nat → Nat → Int64) × Bool × Nat × Nat} {m : Nat → Nat → Int32} {W : Nat → Int32} {b : Nat} {t : Nat} {O : Nat} (hO : m 143 (b + 40) = Int32.ofNat O) (hO2 : O ≤ 20) (hb : b + 81 ≤ 891) (ht : t < 4) : zF σ 1 1903 [.ref 137, .int (Int32.ofNat b), .int (Int32.ofNat t)] (zS1, zrow m 138 W, yy) (.inl none) (zS1, zrow ((q_putsWhole m b t O)) 138 W, yy) := by
  intro d hd
  obtain ⟨d, rfl⟩ : ∃ k, d = k + 1 := ⟨d - 1, by omega⟩
  exact p_putsWhole hd hO hO2 hb ht
noncomputable def q_wdo0 (m : Nat → Nat → Int32) (b : Nat) (t : Nat) (n : Nat) (w : Nat) : Int32 × (Nat → Nat → Int32) := (bif zc1 .eq (m 143 (((b + 0) + w))) then ((Int32.ofNat 1), (zm2 m 143 (((b + 0) + w)) ((Int32.ofNat 1)))) else ((Int32.ofNat 0), m))
theorem p_wdo0 {σ : Nat → Nat × (Nat → Int32)} {yy : (Nat → Nat → Int64) × Bool × Nat × Nat} {m : Nat → Nat → Int32} {W : Nat → Int32} {b : Nat} {t : Nat} {n : Nat} {w : Nat} {d : Nat} (hd : 1 ≤ d + 1) (hb : b + 81 ≤ 891) (ht : t < 4) (hw : W (16 + n) = Int32.ofNat w) (hw2 : w ≤ 31) (hn : n ≤ 3) : zEv σ (d + 1) 1902 0 [some (.ref 137), some (.int (Int32.ofNat b)), some (.int (Int32.ofNat t)), some (.int (Int32.ofNat 0)), some (.int (Int32.ofNat n)), none] [] (zS1, zrow m 138 W, yy) (.inl (some (.int (q_wdo0 m b t n w).1))) (zS1, zrow ((q_wdo0 m b t n w).2) 138 W, yy) := by
  refine zeP rfl rfl ?_
  refine zeKn (c := 1) rfl rfl rfl ?_
  refine zeF2 rfl rfl (show zc2 .gt (Int32.ofNat 0) (Int32.ofNat 1) = false by decide) ?_
  refine zeP rfl rfl ?_
  refine zeKn (c := 0) rfl rfl rfl ?_
  refine zeAdd rfl ?_
  refine zeP rfl rfl ?_
  refine zeGR rfl rfl zS137 rfl rfl ?_
  refine zeKn (c := 16) rfl rfl rfl ?_
  refine zeP rfl rfl ?_
  refine zeAdd rfl ?_
  refine zeWL (k := (16 + n)) rfl (by omega) ?_
  rw [hw]
  refine zeAdd rfl ?_
  refine zeP rfl rfl ?_
  refine zeP rfl rfl ?_
  refine zeP rfl rfl ?_
  refine zeP rfl rfl ?_
  refine zeP rfl rfl ?_
  refine zeGR rfl rfl zS137 rfl rfl ?_
  refine zeP rfl rfl ?_
  refine zeQL (a := 143) (k := ((b + 0) + w)) rfl rfl (by decide) rfl rfl (by omega) ?_
  refine zeB1 rfl rfl (fun h1 => ?_) (fun h1 => ?_)
  · refine zeP rfl rfl ?_
    refine zeGR rfl rfl zS137 rfl rfl ?_
    refine zeP rfl rfl ?_
    refine zeKn (c := 1) rfl rfl rfl ?_
    refine zeQS (a := 143) (k := ((b + 0) + w)) rfl (by decide) rfl rfl (by omega) ?_
    refine zeKn (c := 1) rfl rfl rfl ?_
    exact zeRe rfl rfl rfl rfl (by simp only [q_wdo0, h1, cond_true, cond_false] <;> rfl) (by simp only [q_wdo0, h1, cond_true, cond_false] <;> rfl)
  · refine zeKn (c := 0) rfl rfl rfl ?_
    exact zeRe rfl rfl rfl rfl (by simp only [q_wdo0, h1, cond_true, cond_false] <;> rfl) (by simp only [q_wdo0, h1, cond_true, cond_false] <;> rfl)
theorem c_wdo0 {σ : Nat → Nat × (Nat → Int32)} {yy : (Nat → Nat → Int64) × Bool × Nat × Nat} {m : Nat → Nat → Int32} {W : Nat → Int32} {b : Nat} {t : Nat} {n : Nat} {w : Nat} (hb : b + 81 ≤ 891) (ht : t < 4) (hw : W (16 + n) = Int32.ofNat w) (hw2 : w ≤ 31) (hn : n ≤ 3) : zF σ 1 1902 [.ref 137, .int (Int32.ofNat b), .int (Int32.ofNat t), .int (Int32.ofNat 0), .int (Int32.ofNat n)] (zS1, zrow m 138 W, yy) (.inl (some (.int (q_wdo0 m b t n w).1))) (zS1, zrow ((q_wdo0 m b t n w).2) 138 W, yy) := by
  intro d hd
  obtain ⟨d, rfl⟩ : ∃ k, d = k + 1 := ⟨d - 1, by omega⟩
  exact p_wdo0 hd hb ht hw hw2 hn
noncomputable def q_wdo1 (m : Nat → Nat → Int32) (b : Nat) (t : Nat) (n : Nat) (w : Nat) : Int32 × (Nat → Nat → Int32) := ((Int32.ofNat 1), (zm2 m 143 (((b + 0) + w)) ((Int32.ofNat 0))))
theorem p_wdo1 {σ : Nat → Nat × (Nat → Int32)} {yy : (Nat → Nat → Int64) × Bool × Nat × Nat} {m : Nat → Nat → Int32} {W : Nat → Int32} {b : Nat} {t : Nat} {n : Nat} {w : Nat} {d : Nat} (hd : 1 ≤ d + 1) (hb : b + 81 ≤ 891) (ht : t < 4) (hw : W (16 + n) = Int32.ofNat w) (hw2 : w ≤ 31) (hn : n ≤ 3) : zEv σ (d + 1) 1902 0 [some (.ref 137), some (.int (Int32.ofNat b)), some (.int (Int32.ofNat t)), some (.int (Int32.ofNat 1)), some (.int (Int32.ofNat n)), none] [] (zS1, zrow m 138 W, yy) (.inl (some (.int (q_wdo1 m b t n w).1))) (zS1, zrow ((q_wdo1 m b t n w).2) 138 W, yy) := by
  refine zeP rfl rfl ?_
  refine zeKn (c := 1) rfl rfl rfl ?_
  refine zeF2 rfl rfl (show zc2 .gt (Int32.ofNat 1) (Int32.ofNat 1) = false by decide) ?_
  refine zeP rfl rfl ?_
  refine zeKn (c := 0) rfl rfl rfl ?_
  refine zeAdd rfl ?_
  refine zeP rfl rfl ?_
  refine zeGR rfl rfl zS137 rfl rfl ?_
  refine zeKn (c := 16) rfl rfl rfl ?_
  refine zeP rfl rfl ?_
  refine zeAdd rfl ?_
  refine zeWL (k := (16 + n)) rfl (by omega) ?_
  rw [hw]
  refine zeAdd rfl ?_
  refine zeP rfl rfl ?_
  refine zeP rfl rfl ?_
  refine zeP rfl rfl ?_
  refine zeP rfl rfl ?_
  refine zeP rfl rfl ?_
  refine zeGR rfl rfl zS137 rfl rfl ?_
  refine zeP rfl rfl ?_
  refine zeKn (c := 0) rfl rfl rfl ?_
  refine zeQS (a := 143) (k := ((b + 0) + w)) rfl (by decide) rfl rfl (by omega) ?_
  refine zeKn (c := 1) rfl rfl rfl ?_
  exact zeRe rfl rfl rfl rfl (by rfl) (by rfl)
theorem c_wdo1 {σ : Nat → Nat × (Nat → Int32)} {yy : (Nat → Nat → Int64) × Bool × Nat × Nat} {m : Nat → Nat → Int32} {W : Nat → Int32} {b : Nat} {t : Nat} {n : Nat} {w : Nat} (hb : b + 81 ≤ 891) (ht : t < 4) (hw : W (16 + n) = Int32.ofNat w) (hw2 : w ≤ 31) (hn : n ≤ 3) : zF σ 1 1902 [.ref 137, .int (Int32.ofNat b), .int (Int32.ofNat t), .int (Int32.ofNat 1), .int (Int32.ofNat n)] (zS1, zrow m 138 W, yy) (.inl (some (.int (q_wdo1 m b t n w).1))) (zS1, zrow ((q_wdo1 m b t n w).2) 138 W, yy) := by
  intro d hd
  obtain ⟨d, rfl⟩ : ∃ k, d = k + 1 := ⟨d - 1, by omega⟩
  exact p_wdo1 hd hb ht hw hw2 hn
noncomputable def q_wdo2 (m : Nat → Nat → Int32) (b : Nat) (t : Nat) (n : Nat) : Int32 × (Nat → Nat → Int32) := ((Int32.ofNat 1), (zm2 m 143 (((b + 32) + t)) ((m 143 (((b + 0) + n))))))
theorem p_wdo2 {σ : Nat → Nat × (Nat → Int32)} {yy : (Nat → Nat → Int64) × Bool × Nat × Nat} {m : Nat → Nat → Int32} {W : Nat → Int32} {b : Nat} {t : Nat} {n : Nat} {d : Nat} (hd : 1 ≤ d + 1) (hb : b + 81 ≤ 891) (ht : t < 4) (hn : n ≤ 31) : zEv σ (d + 1) 1902 0 [some (.ref 137), some (.int (Int32.ofNat b)), some (.int (Int32.ofNat t)), some (.int (Int32.ofNat 2)), some (.int (Int32.ofNat n)), none] [] (zS1, zrow m 138 W, yy) (.inl (some (.int (q_wdo2 m b t n).1))) (zS1, zrow ((q_wdo2 m b t n).2) 138 W, yy) := by
  refine zeP rfl rfl ?_
  refine zeKn (c := 1) rfl rfl rfl ?_
  refine zeT2 rfl rfl (show zc2 .gt (Int32.ofNat 2) (Int32.ofNat 1) = true by decide) ?_
  refine zeKn (c := 0) rfl rfl rfl ?_
  refine zeP rfl rfl ?_
  refine zeP rfl rfl ?_
  refine zeP rfl rfl ?_
  refine zeP rfl rfl ?_
  refine zeGR rfl rfl zS137 rfl rfl ?_
  refine zeP rfl rfl ?_
  refine zeKn (c := 32) rfl rfl rfl ?_
  refine zeAdd rfl ?_
  refine zeP rfl rfl ?_
  refine zeAdd rfl ?_
  refine zeP rfl rfl ?_
  refine zeGR rfl rfl zS137 rfl rfl ?_
  refine zeP rfl rfl ?_
  refine zeKn (c := 0) rfl rfl rfl ?_
  refine zeAdd rfl ?_
  refine zeP rfl rfl ?_
  refine zeAdd rfl ?_
  refine zeQL (a := 143) (k := ((b + 0) + n)) rfl rfl (by decide) rfl rfl (by omega) ?_
  refine zeQS (a := 143) (k := ((b + 32) + t)) rfl (by decide) rfl rfl (by omega) ?_
  refine zeKn (c := 1) rfl rfl rfl ?_
  exact zeRe rfl rfl rfl rfl (by rfl) (by rfl)
theorem c_wdo2 {σ : Nat → Nat × (Nat → Int32)} {yy : (Nat → Nat → Int64) × Bool × Nat × Nat} {m : Nat → Nat → Int32} {W : Nat → Int32} {b : Nat} {t : Nat} {n : Nat} (hb : b + 81 ≤ 891) (ht : t < 4) (hn : n ≤ 31) : zF σ 1 1902 [.ref 137, .int (Int32.ofNat b), .int (Int32.ofNat t), .int (Int32.ofNat 2), .int (Int32.ofNat n)] (zS1, zrow m 138 W, yy) (.inl (some (.int (q_wdo2 m b t n).1))) (zS1, zrow ((q_wdo2 m b t n).2) 138 W, yy) := by
  intro d hd
  obtain ⟨d, rfl⟩ : ∃ k, d = k + 1 := ⟨d - 1, by omega⟩
  exact p_wdo2 hd hb ht hn
noncomputable def q_wdo3 (m : Nat → Nat → Int32) (b : Nat) (t : Nat) (n : Nat) : Int32 × (Nat → Nat → Int32) := ((Int32.ofNat 1), (zm2 m 143 (((b + 0) + n)) ((m 143 (((b + 32) + t))))))
theorem p_wdo3 {σ : Nat → Nat × (Nat → Int32)} {yy : (Nat → Nat → Int64) × Bool × Nat × Nat} {m : Nat → Nat → Int32} {W : Nat → Int32} {b : Nat} {t : Nat} {n : Nat} {d : Nat} (hd : 1 ≤ d + 1) (hb : b + 81 ≤ 891) (ht : t < 4) (hn : n ≤ 31) : zEv σ (d + 1) 1902 0 [some (.ref 137), some (.int (Int32.ofNat b)), some (.int (Int32.ofNat t)), some (.int (Int32.ofNat 3)), some (.int (Int32.ofNat n)), none] [] (zS1, zrow m 138 W, yy) (.inl (some (.int (q_wdo3 m b t n).1))) (zS1, zrow ((q_wdo3 m b t n).2) 138 W, yy) := by
  refine zeP rfl rfl ?_
  refine zeKn (c := 1) rfl rfl rfl ?_
  refine zeT2 rfl rfl (show zc2 .gt (Int32.ofNat 3) (Int32.ofNat 1) = true by decide) ?_
  refine zeKn (c := 0) rfl rfl rfl ?_
  refine zeP rfl rfl ?_
  refine zeP rfl rfl ?_
  refine zeP rfl rfl ?_
  refine zeP rfl rfl ?_
  refine zeGR rfl rfl zS137 rfl rfl ?_
  refine zeP rfl rfl ?_
  refine zeKn (c := 0) rfl rfl rfl ?_
  refine zeAdd rfl ?_
  refine zeP rfl rfl ?_
  refine zeAdd rfl ?_
  refine zeP rfl rfl ?_
  refine zeGR rfl rfl zS137 rfl rfl ?_
  refine zeP rfl rfl ?_
  refine zeKn (c := 32) rfl rfl rfl ?_
  refine zeAdd rfl ?_
  refine zeP rfl rfl ?_
  refine zeAdd rfl ?_
  refine zeQL (a := 143) (k := ((b + 32) + t)) rfl rfl (by decide) rfl rfl (by omega) ?_
  refine zeQS (a := 143) (k := ((b + 0) + n)) rfl (by decide) rfl rfl (by omega) ?_
  refine zeKn (c := 1) rfl rfl rfl ?_
  exact zeRe rfl rfl rfl rfl (by rfl) (by rfl)
theorem c_wdo3 {σ : Nat → Nat × (Nat → Int32)} {yy : (Nat → Nat → Int64) × Bool × Nat × Nat} {m : Nat → Nat → Int32} {W : Nat → Int32} {b : Nat} {t : Nat} {n : Nat} (hb : b + 81 ≤ 891) (ht : t < 4) (hn : n ≤ 31) : zF σ 1 1902 [.ref 137, .int (Int32.ofNat b), .int (Int32.ofNat t), .int (Int32.ofNat 3), .int (Int32.ofNat n)] (zS1, zrow m 138 W, yy) (.inl (some (.int (q_wdo3 m b t n).1))) (zS1, zrow ((q_wdo3 m b t n).2) 138 W, yy) := by
  intro d hd
  obtain ⟨d, rfl⟩ : ∃ k, d = k + 1 := ⟨d - 1, by omega⟩
  exact p_wdo3 hd hb ht hn
noncomputable def q_wdo4 (m : Nat → Nat → Int32) (b : Nat) (t : Nat) (n : Nat) : Int32 × (Nat → Nat → Int32) := ((Int32.ofNat 1), (zm2 m 143 (((b + 32) + t)) ((Int32.ofNat n))))
theorem p_wdo4 {σ : Nat → Nat × (Nat → Int32)} {yy : (Nat → Nat → Int64) × Bool × Nat × Nat} {m : Nat → Nat → Int32} {W : Nat → Int32} {b : Nat} {t : Nat} {n : Nat} {d : Nat} (hd : 1 ≤ d + 1) (hb : b + 81 ≤ 891) (ht : t < 4) : zEv σ (d + 1) 1902 0 [some (.ref 137), some (.int (Int32.ofNat b)), some (.int (Int32.ofNat t)), some (.int (Int32.ofNat 4)), some (.int (Int32.ofNat n)), none] [] (zS1, zrow m 138 W, yy) (.inl (some (.int (q_wdo4 m b t n).1))) (zS1, zrow ((q_wdo4 m b t n).2) 138 W, yy) := by
  refine zeP rfl rfl ?_
  refine zeKn (c := 1) rfl rfl rfl ?_
  refine zeT2 rfl rfl (show zc2 .gt (Int32.ofNat 4) (Int32.ofNat 1) = true by decide) ?_
  refine zeKn (c := 0) rfl rfl rfl ?_
  refine zeP rfl rfl ?_
  refine zeP rfl rfl ?_
  refine zeP rfl rfl ?_
  refine zeP rfl rfl ?_
  refine zeGR rfl rfl zS137 rfl rfl ?_
  refine zeP rfl rfl ?_
  refine zeKn (c := 32) rfl rfl rfl ?_
  refine zeAdd rfl ?_
  refine zeP rfl rfl ?_
  refine zeAdd rfl ?_
  refine zeP rfl rfl ?_
  refine zeQS (a := 143) (k := ((b + 32) + t)) rfl (by decide) rfl rfl (by omega) ?_
  refine zeKn (c := 1) rfl rfl rfl ?_
  exact zeRe rfl rfl rfl rfl (by rfl) (by rfl)
theorem c_wdo4 {σ : Nat → Nat × (Nat → Int32)} {yy : (Nat → Nat → Int64) × Bool × Nat × Nat} {m : Nat → Nat → Int32} {W : Nat → Int32} {b : Nat} {t : Nat} {n : Nat} (hb : b + 81 ≤ 891) (ht : t < 4) : zF σ 1 1902 [.ref 137, .int (Int32.ofNat b), .int (Int32.ofNat t), .int (Int32.ofNat 4), .int (Int32.ofNat n)] (zS1, zrow m 138 W, yy) (.inl (some (.int (q_wdo4 m b t n).1))) (zS1, zrow ((q_wdo4 m b t n).2) 138 W, yy) := by
  intro d hd
  obtain ⟨d, rfl⟩ : ∃ k, d = k + 1 := ⟨d - 1, by omega⟩
  exact p_wdo4 hd hb ht
noncomputable def q_wdo5 (m : Nat → Nat → Int32) (b : Nat) (t : Nat) (n : Nat) : Int32 × (Nat → Nat → Int32) := ((Int32.ofNat 1), (zm2 m 143 (((b + 32) + t)) ((((m 143 (((b + 32) + t))) + (Int32.ofNat n)) - ((m 143 (((b + 32) + t))) + (Int32.ofNat n)) / (Int32.ofNat 10000) * (Int32.ofNat 10000)))))
theorem p_wdo5 {σ : Nat → Nat × (Nat → Int32)} {yy : (Nat → Nat → Int64) × Bool × Nat × Nat} {m : Nat → Nat → Int32} {W : Nat → Int32} {b : Nat} {t : Nat} {n : Nat} {d : Nat} (hd : 1 ≤ d + 1) (hb : b + 81 ≤ 891) (ht : t < 4) : zEv σ (d + 1) 1902 0 [some (.ref 137), some (.int (Int32.ofNat b)), some (.int (Int32.ofNat t)), some (.int (Int32.ofNat 5)), some (.int (Int32.ofNat n)), none] [] (zS1, zrow m 138 W, yy) (.inl (some (.int (q_wdo5 m b t n).1))) (zS1, zrow ((q_wdo5 m b t n).2) 138 W, yy) := by
  refine zeP rfl rfl ?_
  refine zeKn (c := 1) rfl rfl rfl ?_
  refine zeT2 rfl rfl (show zc2 .gt (Int32.ofNat 5) (Int32.ofNat 1) = true by decide) ?_
  refine zeKn (c := 0) rfl rfl rfl ?_
  refine zeP rfl rfl ?_
  refine zeP rfl rfl ?_
  refine zeP rfl rfl ?_
  refine zeP rfl rfl ?_
  refine zeGR rfl rfl zS137 rfl rfl ?_
  refine zeP rfl rfl ?_
  refine zeKn (c := 32) rfl rfl rfl ?_
  refine zeAdd rfl ?_
  refine zeP rfl rfl ?_
  refine zeAdd rfl ?_
  refine zeP rfl rfl ?_
  refine zeGR rfl rfl zS137 rfl rfl ?_
  refine zeP rfl rfl ?_
  refine zeKn (c := 32) rfl rfl rfl ?_
  refine zeAdd rfl ?_
  refine zeP rfl rfl ?_
  refine zeAdd rfl ?_
  refine zeQL (a := 143) (k := ((b + 32) + t)) rfl rfl (by decide) rfl rfl (by omega) ?_
  refine zeP rfl rfl ?_
  refine zeP rfl rfl ?_
  refine zeKn (c := 10000) rfl rfl rfl ?_
  refine zeRem rfl (by decide) ?_
  refine zeQS (a := 143) (k := ((b + 32) + t)) rfl (by decide) rfl rfl (by omega) ?_
  refine zeKn (c := 1) rfl rfl rfl ?_
  exact zeRe rfl rfl rfl rfl (by rfl) (by rfl)
theorem c_wdo5 {σ : Nat → Nat × (Nat → Int32)} {yy : (Nat → Nat → Int64) × Bool × Nat × Nat} {m : Nat → Nat → Int32} {W : Nat → Int32} {b : Nat} {t : Nat} {n : Nat} (hb : b + 81 ≤ 891) (ht : t < 4) : zF σ 1 1902 [.ref 137, .int (Int32.ofNat b), .int (Int32.ofNat t), .int (Int32.ofNat 5), .int (Int32.ofNat n)] (zS1, zrow m 138 W, yy) (.inl (some (.int (q_wdo5 m b t n).1))) (zS1, zrow ((q_wdo5 m b t n).2) 138 W, yy) := by
  intro d hd
  obtain ⟨d, rfl⟩ : ∃ k, d = k + 1 := ⟨d - 1, by omega⟩
  exact p_wdo5 hd hb ht
noncomputable def q_wdo6 (b : Nat) (t : Nat) (n : Nat) : Int32 := (Int32.ofNat 1)
theorem p_wdo6 {σ : Nat → Nat × (Nat → Int32)} {yy : (Nat → Nat → Int64) × Bool × Nat × Nat} {m : Nat → Nat → Int32} {W : Nat → Int32} {b : Nat} {t : Nat} {n : Nat} {d : Nat} (hd : 1 ≤ d + 1) (hb : b + 81 ≤ 891) (ht : t < 4) : zEv σ (d + 1) 1902 0 [some (.ref 137), some (.int (Int32.ofNat b)), some (.int (Int32.ofNat t)), some (.int (Int32.ofNat 6)), some (.int (Int32.ofNat n)), none] [] (zS1, zrow m 138 W, yy) (.inl (some (.int (q_wdo6 b t n)))) (zS1, zrow m 138 W, yy) := by
  refine zeP rfl rfl ?_
  refine zeKn (c := 1) rfl rfl rfl ?_
  refine zeT2 rfl rfl (show zc2 .gt (Int32.ofNat 6) (Int32.ofNat 1) = true by decide) ?_
  refine zeKn (c := 0) rfl rfl rfl ?_
  refine zeP rfl rfl ?_
  refine zeP rfl rfl ?_
  refine zeP rfl rfl ?_
  refine zeKn (c := 1) rfl rfl rfl ?_
  exact zeRe rfl rfl rfl rfl (by rfl) (by rfl)
theorem c_wdo6 {σ : Nat → Nat × (Nat → Int32)} {yy : (Nat → Nat → Int64) × Bool × Nat × Nat} {m : Nat → Nat → Int32} {W : Nat → Int32} {b : Nat} {t : Nat} {n : Nat} (hb : b + 81 ≤ 891) (ht : t < 4) : zF σ 1 1902 [.ref 137, .int (Int32.ofNat b), .int (Int32.ofNat t), .int (Int32.ofNat 6), .int (Int32.ofNat n)] (zS1, zrow m 138 W, yy) (.inl (some (.int (q_wdo6 b t n)))) (zS1, zrow m 138 W, yy) := by
  intro d hd
  obtain ⟨d, rfl⟩ : ∃ k, d = k + 1 := ⟨d - 1, by omega⟩
  exact p_wdo6 hd hb ht
noncomputable def q_wdo7 (m : Nat → Nat → Int32) (b : Nat) (t : Nat) (n : Nat) (O : Nat) : Int32 × (Nat → Nat → Int32) := ((Int32.ofNat 1), (q_putsWhole m b t O))
theorem p_wdo7 {σ : Nat → Nat × (Nat → Int32)} {yy : (Nat → Nat → Int64) × Bool × Nat × Nat} {m : Nat → Nat → Int32} {W : Nat → Int32} {b : Nat} {t : Nat} {n : Nat} {O : Nat} {d : Nat} (hd : 2 ≤ d + 1) (hb : b + 81 ≤ 891) (ht : t < 4) (hO : m 143 (b + 40) = Int32.ofNat O) (hO2 : O ≤ 20) : zEv σ (d + 1) 1902 0 [some (.ref 137), some (.int (Int32.ofNat b)), some (.int (Int32.ofNat t)), some (.int (Int32.ofNat 7)), some (.int (Int32.ofNat n)), none] [] (zS1, zrow m 138 W, yy) (.inl (some (.int (q_wdo7 m b t n O).1))) (zS1, zrow ((q_wdo7 m b t n O).2) 138 W, yy) := by
  refine zeP rfl rfl ?_
  refine zeKn (c := 1) rfl rfl rfl ?_
  refine zeT2 rfl rfl (show zc2 .gt (Int32.ofNat 7) (Int32.ofNat 1) = true by decide) ?_
  refine zeKn (c := 0) rfl rfl rfl ?_
  refine zeP rfl rfl ?_
  refine zeP rfl rfl ?_
  refine zeP rfl rfl ?_
  refine zeP rfl rfl ?_
  refine zeP rfl rfl ?_
  refine zeP rfl rfl ?_
  refine zeCF rfl rfl rfl rfl rfl rfl (c_putsWhole (m := m) (W := W) (b := b) (t := t) (O := O) hO hO2 hb ht) (by omega) ?_
  dsimp only [Option.toList, List.cons_append, List.nil_append]
  refine zeKn (c := 1) rfl rfl rfl ?_
  exact zeRe rfl rfl rfl rfl (by rfl) (by rfl)
theorem c_wdo7 {σ : Nat → Nat × (Nat → Int32)} {yy : (Nat → Nat → Int64) × Bool × Nat × Nat} {m : Nat → Nat → Int32} {W : Nat → Int32} {b : Nat} {t : Nat} {n : Nat} {O : Nat} (hb : b + 81 ≤ 891) (ht : t < 4) (hO : m 143 (b + 40) = Int32.ofNat O) (hO2 : O ≤ 20) : zF σ 2 1902 [.ref 137, .int (Int32.ofNat b), .int (Int32.ofNat t), .int (Int32.ofNat 7), .int (Int32.ofNat n)] (zS1, zrow m 138 W, yy) (.inl (some (.int (q_wdo7 m b t n O).1))) (zS1, zrow ((q_wdo7 m b t n O).2) 138 W, yy) := by
  intro d hd
  obtain ⟨d, rfl⟩ : ∃ k, d = k + 1 := ⟨d - 1, by omega⟩
  exact p_wdo7 hd hb ht hO hO2
/-- a deed done in a whole part -/
noncomputable def q_wdoDeed (m : Nat → Nat → Int32) (W : Nat → Int32) (b t K n : Nat) : Int32 × (Nat → Nat → Int32) := match K with
  | 0 => q_wdo0 m b t n (nv W (16 + n))
  | 1 => q_wdo1 m b t n (nv W (16 + n))
  | 2 => q_wdo2 m b t n
  | 3 => q_wdo3 m b t n
  | 4 => q_wdo4 m b t n
  | 5 => q_wdo5 m b t n
  | 6 => (Int32.ofNat 1, m)
  | _ => q_wdo7 m b t n (m 143 (b + 40)).toNatClampNeg
/-- a level of the search that is in order -/
noncomputable def OL (m : Nat → Nat → Int32) (b : Nat) : Prop := m 143 (b + 40) = Int32.ofNat (m 143 (b + 40)).toNatClampNeg ∧ (m 143 (b + 40)).toNatClampNeg ≤ 20
theorem c_wdoDeed {σ : Nat → Nat × (Nat → Int32)} {yy : (Nat → Nat → Int64) × Bool × Nat × Nat} {m : Nat → Nat → Int32} {W : Nat → Int32} {b t K n : Nat} (hb : b + 81 ≤ 891) (ht : t < 4) (hW : WG W) (hO : OL m b) (hK : K ≤ 7) (h1 : K ≤ 1 → n ≤ 3) (h3 : K ≤ 3 → n ≤ 31) : zF σ 2 1902 [.ref 137, .int (Int32.ofNat b), .int (Int32.ofNat t), .int (Int32.ofNat K), .int (Int32.ofNat n)] (zS1, zrow m 138 W, yy) (.inl (some (.int (q_wdoDeed m W b t K n).1))) (zS1, zrow (q_wdoDeed m W b t K n).2 138 W, yy) := by
  have hl : n ≤ 3 → W (16 + n) = Int32.ofNat (nv W (16 + n)) ∧ nv W (16 + n) ≤ 31 := fun h => ⟨(hW.1.2.2.2.2.2.2 n (by omega)).1, (hW.1.2.2.2.2.2.2 n (by omega)).2.2⟩
  match K, hK, h1, h3 with
  | 0, _, h1, _ => exact (c_wdo0 hb ht (hl (h1 (by omega))).1 (hl (h1 (by omega))).2 (h1 (by omega))).up (by omega)
  | 1, _, h1, _ => exact (c_wdo1 hb ht (hl (h1 (by omega))).1 (hl (h1 (by omega))).2 (h1 (by omega))).up (by omega)
  | 2, _, _, h3 => exact (c_wdo2 hb ht (h3 (by omega))).up (by omega)
  | 3, _, _, h3 => exact (c_wdo3 hb ht (h3 (by omega))).up (by omega)
  | 4, _, _, _ => exact (c_wdo4 hb ht).up (by omega)
  | 5, _, _, _ => exact (c_wdo5 hb ht).up (by omega)
  | 6, _, _, _ => exact (c_wdo6 (b := b) (t := t) (n := n) hb ht).up (by omega)
  | 7, _, _, _ => exact c_wdo7 hb ht hO.1 hO.2
  | k + 8, h, _, _ => exact absurd h (by omega)
noncomputable def l_asNow2 (m : Nat → Nat → Int32) (W : Nat → Int32) (b : Nat) (O : Nat) : Nat → Int32 → Nat → Int32
  | 0, is, k => is
  | n + 1, is, k => (bif zc1 .eq is then is else (bif zc2 .ne (m 143 (((b + 41) + k))) (W (96 + k)) then (l_asNow2 m W b O n ((Int32.ofNat 0)) ((k + 1))) else (l_asNow2 m W b O n ((Int32.ofNat 1)) ((k + 1)))))
theorem w_asNow2 {σ : Nat → Nat × (Nat → Int32)} {yy : (Nat → Nat → Int64) × Bool × Nat × Nat} {m : Nat → Nat → Int32} {W : Nat → Int32} {b : Nat} {O : Nat} {d : Nat} (hd : 1 ≤ d + 1) (hO : W 14 = Int32.ofNat O) (hO2 : O ≤ 20) (hb : b + 81 ≤ 891) : ∀ (n : Nat) (is : Int32) (k : Nat), k + n = 2 * O → is = 0 ∨ is = 1 → zEv σ (d + 1) 1904 73 [some (.ref 137), some (.int (Int32.ofNat b)), some (.int is), some (.int (Int32.ofNat k))] [] (zS1, zrow m 138 W, yy) (.inl (some (.int (l_asNow2 m W b O n is k)))) (zS1, zrow m 138 W, yy) := by
  intro n
  induction n with
  | zero =>
    intro is k hk his
    refine zeP rfl rfl ?_
    refine zeKn (c := 2) rfl rfl rfl ?_
    refine zeP rfl rfl ?_
    refine zeGR rfl rfl zS137 rfl rfl ?_
    refine zeKn (c := 14) rfl rfl rfl ?_
    refine zeWL (k := 14) rfl (by omega) ?_
    rw [hO]
    refine zeMul rfl ?_
    refine zeT2 rfl rfl (zcge (by omega) (by omega) (by omega)) ?_
    refine zeP rfl rfl ?_
    exact zeRe rfl rfl rfl (zretB rfl rfl his) (by rfl) (by rfl)
  | succ n ih =>
    intro is k hk his
    refine zeP rfl rfl ?_
    refine zeKn (c := 2) rfl rfl rfl ?_
    refine zeP rfl rfl ?_
    refine zeGR rfl rfl zS137 rfl rfl ?_
    refine zeKn (c := 14) rfl rfl rfl ?_
    refine zeWL (k := 14) rfl (by omega) ?_
    rw [hO]
    refine zeMul rfl ?_
    refine zeF2 rfl rfl (zcge_f (by omega) (by omega) (by omega)) ?_
    refine zeP rfl rfl ?_
    refine zeB1 rfl rfl (fun h1 => ?_) (fun h1 => ?_)
    · refine zeP rfl rfl ?_
      exact zeRe rfl rfl rfl (zretB rfl rfl his) (by simp only [l_asNow2, h1, cond_true, cond_false] <;> rfl) (by simp only [l_asNow2, h1, cond_true, cond_false] <;> rfl)
    · refine zeP rfl rfl ?_
      refine zeGR rfl rfl zS137 rfl rfl ?_
      refine zeP rfl rfl ?_
      refine zeKn (c := 41) rfl rfl rfl ?_
      refine zeAdd rfl ?_
      refine zeP rfl rfl ?_
      refine zeAdd rfl ?_
      refine zeQL (a := 143) (k := ((b + 41) + k)) rfl rfl (by decide) rfl rfl (by omega) ?_
      refine zeP rfl rfl ?_
      refine zeGR rfl rfl zS137 rfl rfl ?_
      refine zeKn (c := 96) rfl rfl rfl ?_
      refine zeP rfl rfl ?_
      refine zeAdd rfl ?_
      refine zeWL (k := (96 + k)) rfl (by omega) ?_
      refine zeB2 rfl rfl (fun h2 => ?_) (fun h2 => ?_)
      · refine zeKn (c := 0) rfl rfl rfl ?_
        refine zeP rfl rfl ?_
        refine zeInc rfl rfl ?_
        refine zeP rfl rfl ?_
        simp only [l_asNow2, h1, h2, cond_true, cond_false]
        exact ih ((Int32.ofNat 0)) ((k + 1))   (by omega) (by first | exact Or.inr rfl | exact Or.inl rfl)
      · refine zeKn (c := 1) rfl rfl rfl ?_
        refine zeP rfl rfl ?_
        refine zeP rfl rfl ?_
        refine zeInc rfl rfl ?_
        refine zeP rfl rfl ?_
        simp only [l_asNow2, h1, h2, cond_true, cond_false]
        exact ih ((Int32.ofNat 1)) ((k + 1))   (by omega) (by first | exact Or.inr rfl | exact Or.inl rfl)
noncomputable def q_asNow71 (m : Nat → Nat → Int32) (W : Nat → Int32) (b : Nat) (is : Int32) (k : Nat) (O : Nat) : Int32 := (l_asNow2 m W b O ((2 * O)) is 0)
theorem p_asNow71 {σ : Nat → Nat × (Nat → Int32)} {yy : (Nat → Nat → Int64) × Bool × Nat × Nat} {m : Nat → Nat → Int32} {W : Nat → Int32} {b : Nat} {is : Int32} {k : Nat} {O : Nat} {d : Nat} (hd : 1 ≤ d + 1) (hO : W 14 = Int32.ofNat O) (hO2 : O ≤ 20) (hb : b + 81 ≤ 891) (his : is = 0 ∨ is = 1) : zEv σ (d + 1) 1904 71 [some (.ref 137), some (.int (Int32.ofNat b)), some (.int is), some (.int (Int32.ofNat k))] [] (zS1, zrow m 138 W, yy) (.inl (some (.int (q_asNow71 m W b is k O)))) (zS1, zrow m 138 W, yy) := by
  refine zeKn (c := 0) rfl rfl rfl ?_
  refine zeP rfl rfl ?_
  simp only [q_asNow71, cond_true, cond_false]
  exact w_asNow2 (b := b) (O := O) (W := W) (m := m) (by omega) hO hO2 hb ((2 * O)) (is) (0)   (by omega) his
noncomputable def l_asNow1 (m : Nat → Nat → Int32) (W : Nat → Int32) (b : Nat) (O : Nat) : Nat → Int32 → Nat → Int32
  | 0, is, k => (q_asNow71 m W b is k O)
  | n + 1, is, k => (bif zc1 .eq is then (q_asNow71 m W b is k O) else (bif zc2 .ne (m 143 (((b + 0) + k))) (W (32 + k)) then (l_asNow1 m W b O n ((Int32.ofNat 0)) ((k + 1))) else (l_asNow1 m W b O n ((Int32.ofNat 1)) ((k + 1)))))
theorem w_asNow1 {σ : Nat → Nat × (Nat → Int32)} {yy : (Nat → Nat → Int64) × Bool × Nat × Nat} {m : Nat → Nat → Int32} {W : Nat → Int32} {b : Nat} {O : Nat} {d : Nat} (hd : 1 ≤ d + 1) (hO : W 14 = Int32.ofNat O) (hO2 : O ≤ 20) (hb : b + 81 ≤ 891) : ∀ (n : Nat) (is : Int32) (k : Nat), k + n = 32 → is = 0 ∨ is = 1 → zEv σ (d + 1) 1904 27 [some (.ref 137), some (.int (Int32.ofNat b)), some (.int is), some (.int (Int32.ofNat k))] [] (zS1, zrow m 138 W, yy) (.inl (some (.int (l_asNow1 m W b O n is k)))) (zS1, zrow m 138 W, yy) := by
  intro n
  induction n with
  | zero =>
    intro is k hk his
    refine zeP rfl rfl ?_
    refine zeKn (c := 32) rfl rfl rfl ?_
    refine zeT2 rfl rfl (zcge (by omega) (by omega) (by omega)) ?_
    simp only [l_asNow1, cond_true, cond_false]
    exact p_asNow71 (b := b) (is := is) (k := k) (O := O) (W := W) (m := m) (by omega) hO hO2 hb his
  | succ n ih =>
    intro is k hk his
    refine zeP rfl rfl ?_
    refine zeKn (c := 32) rfl rfl rfl ?_
    refine zeF2 rfl rfl (zcge_f (by omega) (by omega) (by omega)) ?_
    refine zeP rfl rfl ?_
    refine zeB1 rfl rfl (fun h1 => ?_) (fun h1 => ?_)
    · simp only [l_asNow1, h1, cond_true, cond_false]
      exact p_asNow71 (b := b) (is := is) (k := k) (O := O) (W := W) (m := m) (by omega) hO hO2 hb his
    · refine zeP rfl rfl ?_
      refine zeGR rfl rfl zS137 rfl rfl ?_
      refine zeP rfl rfl ?_
      refine zeKn (c := 0) rfl rfl rfl ?_
      refine zeAdd rfl ?_
      refine zeP rfl rfl ?_
      refine zeAdd rfl ?_
      refine zeQL (a := 143) (k := ((b + 0) + k)) rfl rfl (by decide) rfl rfl (by omega) ?_
      refine zeP rfl rfl ?_
      refine zeGR rfl rfl zS137 rfl rfl ?_
      refine zeKn (c := 32) rfl rfl rfl ?_
      refine zeP rfl rfl ?_
      refine zeAdd rfl ?_
      refine zeWL (k := (32 + k)) rfl (by omega) ?_
      refine zeB2 rfl rfl (fun h2 => ?_) (fun h2 => ?_)
      · refine zeKn (c := 0) rfl rfl rfl ?_
        refine zeP rfl rfl ?_
        refine zeInc rfl rfl ?_
        refine zeP rfl rfl ?_
        simp only [l_asNow1, h1, h2, cond_true, cond_false]
        exact ih ((Int32.ofNat 0)) ((k + 1))   (by omega) (by first | exact Or.inr rfl | exact Or.inl rfl)
      · refine zeKn (c := 1) rfl rfl rfl ?_
        refine zeP rfl rfl ?_
        refine zeP rfl rfl ?_
        refine zeInc rfl rfl ?_
        refine zeP rfl rfl ?_
        simp only [l_asNow1, h1, h2, cond_true, cond_false]
        exact ih ((Int32.ofNat 1)) ((k + 1))   (by omega) (by first | exact Or.inr rfl | exact Or.inl rfl)
noncomputable def q_isAsNow (m : Nat → Nat → Int32) (W : Nat → Int32) (b : Nat) (O : Nat) : Int32 := (bif zc2 .ne (m 143 ((b + 40))) (W 14) then (l_asNow1 m W b O 32 ((Int32.ofNat 0)) 0) else (l_asNow1 m W b O 32 ((Int32.ofNat 1)) 0))
theorem p_isAsNow {σ : Nat → Nat × (Nat → Int32)} {yy : (Nat → Nat → Int64) × Bool × Nat × Nat} {m : Nat → Nat → Int32} {W : Nat → Int32} {b : Nat} {O : Nat} {d : Nat} (hd : 1 ≤ d + 1) (hO : W 14 = Int32.ofNat O) (hO2 : O ≤ 20) (hb : b + 81 ≤ 891) : zEv σ (d + 1) 1904 0 [some (.ref 137), some (.int (Int32.ofNat b)), none, none] [] (zS1, zrow m 138 W, yy) (.inl (some (.int (q_isAsNow m W b O)))) (zS1, zrow m 138 W, yy) := by
  refine zeP rfl rfl ?_
  refine zeGR rfl rfl zS137 rfl rfl ?_
  refine zeP rfl rfl ?_
  refine zeKn (c := 40) rfl rfl rfl ?_
  refine zeAdd rfl ?_
  refine zeQL (a := 143) (k := (b + 40)) rfl rfl (by decide) rfl rfl (by omega) ?_
  refine zeP rfl rfl ?_
  refine zeGR rfl rfl zS137 rfl rfl ?_
  refine zeKn (c := 14) rfl rfl rfl ?_
  refine zeWL (k := 14) rfl (by omega) ?_
  refine zeB2 rfl rfl (fun h1 => ?_) (fun h1 => ?_)
  · refine zeKn (c := 0) rfl rfl rfl ?_
    refine zeP rfl rfl ?_
    refine zeKn (c := 0) rfl rfl rfl ?_
    refine zeP rfl rfl ?_
    simp only [q_isAsNow, h1, cond_true, cond_false]
    exact w_asNow1 (b := b) (O := O) (W := W) (m := m) (by omega) hO hO2 hb 32 ((Int32.ofNat 0)) (0)   (by omega) (by first | exact Or.inr rfl | exact Or.inl rfl)
  · refine zeKn (c := 1) rfl rfl rfl ?_
    refine zeP rfl rfl ?_
    refine zeP rfl rfl ?_
    refine zeKn (c := 0) rfl rfl rfl ?_
    refine zeP rfl rfl ?_
    simp only [q_isAsNow, h1, cond_true, cond_false]
    exact w_asNow1 (b := b) (O := O) (W := W) (m := m) (by omega) hO hO2 hb 32 ((Int32.ofNat 1)) (0)   (by omega) (by first | exact Or.inr rfl | exact Or.inl rfl)
theorem c_isAsNow {σ : Nat → Nat × (Nat → Int32)} {yy : (Nat → Nat → Int64) × Bool × Nat × Nat} {m : Nat → Nat → Int32} {W : Nat → Int32} {b : Nat} {O : Nat} (hO : W 14 = Int32.ofNat O) (hO2 : O ≤ 20) (hb : b + 81 ≤ 891) : zF σ 1 1904 [.ref 137, .int (Int32.ofNat b)] (zS1, zrow m 138 W, yy) (.inl (some (.int (q_isAsNow m W b O)))) (zS1, zrow m 138 W, yy) := by
  intro d hd
  obtain ⟨d, rfl⟩ : ∃ k, d = k + 1 := ⟨d - 1, by omega⟩
  exact p_isAsNow hd hO hO2 hb
