noncomputable def x_lockCp (m : Nat → Nat → Int32) (b : Nat) (l : Nat) (c : Nat) : (Nat → Nat → Int32) := (zm2 ((zm2 ((zm2 ((zm2 m ((b + 5 + l)) 0 (m ((c + 5 + l)) 0))) ((b + 5 + l)) 1 (m ((c + 5 + l)) 1))) ((b + 5 + l)) 2 (m ((c + 5 + l)) 2))) ((b + 5 + l)) 3 (m ((c + 5 + l)) 3))
theorem xp_lockCp {σ : Nat → Nat × (Nat → Int32)} {yy : (Nat → Nat → Int64) × Bool × Nat × Nat} {m : Nat → Nat → Int32} {b : Nat} {l : Nat} {c : Nat} {d : Nat} (hd : 1 ≤ d + 1) (hb : BB b) (he : BB c) (hl : l < 4) (hbc : b + 42 ≤ c ∨ c + 42 ≤ b) : zEv σ (d + 1) 201 0 [some (.ref (b + 5 + l)), some (.ref (c + 5 + l))] [] (zS1, m, yy) (.inl none) (zS1, ((x_lockCp m b l c)), yy) := by
  refine zeP rfl rfl ?_
  refine zeP rfl rfl ?_
  refine zeGI rfl rfl (shL he (by omega)) rfl rfl ?_
  refine zePI rfl rfl (shL hb (by omega)) rfl ?_
  refine zeP rfl rfl ?_
  refine zeP rfl rfl ?_
  refine zeGI rfl rfl (shL he (by omega)) rfl rfl ?_
  rw [show (((zm2 m ((b + 5 + l)) 0 (m ((c + 5 + l)) 0))) ((c + 5 + l)) 1) = m ((c + 5 + l)) 1 from (by simp (disch := omega) only [zx_ne, zcpy_ne, zx_ne])]
  refine zePI rfl rfl (shL hb (by omega)) rfl ?_
  refine zeP rfl rfl ?_
  refine zeP rfl rfl ?_
  refine zeGI rfl rfl (shL he (by omega)) rfl rfl ?_
  rw [show (((zm2 ((zm2 m ((b + 5 + l)) 0 (m ((c + 5 + l)) 0))) ((b + 5 + l)) 1 (m ((c + 5 + l)) 1))) ((c + 5 + l)) 2) = m ((c + 5 + l)) 2 from (by simp (disch := omega) only [zx_ne, zcpy_ne, zx_ne])]
  refine zePI rfl rfl (shL hb (by omega)) rfl ?_
  refine zeP rfl rfl ?_
  refine zeP rfl rfl ?_
  refine zeGI rfl rfl (shL he (by omega)) rfl rfl ?_
  rw [show (((zm2 ((zm2 ((zm2 m ((b + 5 + l)) 0 (m ((c + 5 + l)) 0))) ((b + 5 + l)) 1 (m ((c + 5 + l)) 1))) ((b + 5 + l)) 2 (m ((c + 5 + l)) 2))) ((c + 5 + l)) 3) = m ((c + 5 + l)) 3 from (by simp (disch := omega) only [zx_ne, zcpy_ne, zx_ne])]
  refine zePI rfl rfl (shL hb (by omega)) rfl ?_
  exact zeRe rfl rfl rfl rfl (by rfl) (by rfl)
theorem xc_lockCp {σ : Nat → Nat × (Nat → Int32)} {yy : (Nat → Nat → Int64) × Bool × Nat × Nat} {m : Nat → Nat → Int32} {b : Nat} {l : Nat} {c : Nat} (hb : BB b) (he : BB c) (hl : l < 4) (hbc : b + 42 ≤ c ∨ c + 42 ≤ b) : zF σ 1 201 [.ref (b + 5 + l), .ref (c + 5 + l)] (zS1, m, yy) (.inl none) (zS1, ((x_lockCp m b l c)), yy) := by
  intro d hd
  obtain ⟨d, rfl⟩ : ∃ k, d = k + 1 := ⟨d - 1, by omega⟩
  exact xp_lockCp hd hb he hl hbc
noncomputable def x_guessCp (m : Nat → Nat → Int32) (b : Nat) (t : Nat) (c : Nat) : (Nat → Nat → Int32) := (zm2 ((zcpy ((zm2 ((zm2 ((zm2 ((zcpy ((zm2 ((zm2 ((zm2 ((zm2 m ((b + 14 + 7 * t)) 0 (m ((c + 14 + 7 * t)) 0))) ((b + 14 + 7 * t)) 1 (m ((c + 14 + 7 * t)) 1))) ((b + 14 + 7 * t)) 2 (m ((c + 14 + 7 * t)) 2))) ((b + 14 + 7 * t)) 3 (m ((c + 14 + 7 * t)) 3))) ((c + 15 + 7 * t)) ((b + 15 + 7 * t)) 0 0 4)) ((b + 14 + 7 * t)) 5 (m ((c + 14 + 7 * t)) 5))) ((b + 14 + 7 * t)) 6 (m ((c + 14 + 7 * t)) 6))) ((b + 14 + 7 * t)) 7 (m ((c + 14 + 7 * t)) 7))) ((c + 16 + 7 * t)) ((b + 16 + 7 * t)) 0 0 32)) ((b + 14 + 7 * t)) 9 (m ((c + 14 + 7 * t)) 9))
theorem xp_guessCp {σ : Nat → Nat × (Nat → Int32)} {yy : (Nat → Nat → Int64) × Bool × Nat × Nat} {m : Nat → Nat → Int32} {b : Nat} {t : Nat} {c : Nat} {d : Nat} (hd : 1 ≤ d + 1) (hb : BB b) (he : BB c) (ht : t < 4) (hbc : b + 42 ≤ c ∨ c + 42 ≤ b) (hon : m (c + 14 + 7 * t) 0 = 0 ∨ m (c + 14 + 7 * t) 0 = 1) : zEv σ (d + 1) 1 0 [some (.ref (b + 14 + 7 * t)), some (.ref (c + 14 + 7 * t))] [] (zS1, m, yy) (.inl none) (zS1, ((x_guessCp m b t c)), yy) := by
  refine zeP rfl rfl ?_
  refine zeP rfl rfl ?_
  refine zeGI rfl rfl (shG he (by omega)) rfl rfl ?_
  refine zePB rfl rfl (shG hb (by omega)) rfl hon ?_
  refine zeP rfl rfl ?_
  refine zeP rfl rfl ?_
  refine zeGI rfl rfl (shG he (by omega)) rfl rfl ?_
  rw [show (((zm2 m ((b + 14 + 7 * t)) 0 (m ((c + 14 + 7 * t)) 0))) ((c + 14 + 7 * t)) 1) = m ((c + 14 + 7 * t)) 1 from (by simp (disch := omega) only [zx_ne, zcpy_ne, zx_ne])]
  refine zePI rfl rfl (shG hb (by omega)) rfl ?_
  refine zeP rfl rfl ?_
  refine zeP rfl rfl ?_
  refine zeGI rfl rfl (shG he (by omega)) rfl rfl ?_
  rw [show (((zm2 ((zm2 m ((b + 14 + 7 * t)) 0 (m ((c + 14 + 7 * t)) 0))) ((b + 14 + 7 * t)) 1 (m ((c + 14 + 7 * t)) 1))) ((c + 14 + 7 * t)) 2) = m ((c + 14 + 7 * t)) 2 from (by simp (disch := omega) only [zx_ne, zcpy_ne, zx_ne])]
  refine zePI rfl rfl (shG hb (by omega)) rfl ?_
  refine zeP rfl rfl ?_
  refine zeP rfl rfl ?_
  refine zeGI rfl rfl (shG he (by omega)) rfl rfl ?_
  rw [show (((zm2 ((zm2 ((zm2 m ((b + 14 + 7 * t)) 0 (m ((c + 14 + 7 * t)) 0))) ((b + 14 + 7 * t)) 1 (m ((c + 14 + 7 * t)) 1))) ((b + 14 + 7 * t)) 2 (m ((c + 14 + 7 * t)) 2))) ((c + 14 + 7 * t)) 3) = m ((c + 14 + 7 * t)) 3 from (by simp (disch := omega) only [zx_ne, zcpy_ne, zx_ne])]
  refine zePI rfl rfl (shG hb (by omega)) rfl ?_
  refine zeP rfl rfl ?_
  refine zeGR rfl rfl (shG he (by omega)) rfl rfl ?_
  refine zeKn (c := 0) rfl rfl rfl ?_
  refine zeP rfl rfl ?_
  refine zeGR rfl rfl (shG hb (by omega)) rfl rfl ?_
  refine zeKn (c := 0) rfl rfl rfl ?_
  refine zeKn (c := 4) rfl rfl rfl ?_
  refine zeCPY rfl rfl (shO he (by omega)) (shO hb (by omega)) (by omega) (by omega) (by omega) (by omega) rfl ?_
  refine zeP rfl rfl ?_
  refine zeP rfl rfl ?_
  refine zeGI rfl rfl (shG he (by omega)) rfl rfl ?_
  rw [show (((zcpy ((zm2 ((zm2 ((zm2 ((zm2 m ((b + 14 + 7 * t)) 0 (m ((c + 14 + 7 * t)) 0))) ((b + 14 + 7 * t)) 1 (m ((c + 14 + 7 * t)) 1))) ((b + 14 + 7 * t)) 2 (m ((c + 14 + 7 * t)) 2))) ((b + 14 + 7 * t)) 3 (m ((c + 14 + 7 * t)) 3))) ((c + 15 + 7 * t)) ((b + 15 + 7 * t)) 0 0 4)) ((c + 14 + 7 * t)) 5) = m ((c + 14 + 7 * t)) 5 from (by simp (disch := omega) only [zx_ne, zcpy_ne, zx_ne])]
  refine zePI rfl rfl (shG hb (by omega)) rfl ?_
  refine zeP rfl rfl ?_
  refine zeP rfl rfl ?_
  refine zeGI rfl rfl (shG he (by omega)) rfl rfl ?_
  rw [show (((zm2 ((zcpy ((zm2 ((zm2 ((zm2 ((zm2 m ((b + 14 + 7 * t)) 0 (m ((c + 14 + 7 * t)) 0))) ((b + 14 + 7 * t)) 1 (m ((c + 14 + 7 * t)) 1))) ((b + 14 + 7 * t)) 2 (m ((c + 14 + 7 * t)) 2))) ((b + 14 + 7 * t)) 3 (m ((c + 14 + 7 * t)) 3))) ((c + 15 + 7 * t)) ((b + 15 + 7 * t)) 0 0 4)) ((b + 14 + 7 * t)) 5 (m ((c + 14 + 7 * t)) 5))) ((c + 14 + 7 * t)) 6) = m ((c + 14 + 7 * t)) 6 from (by simp (disch := omega) only [zx_ne, zcpy_ne, zx_ne])]
  refine zePI rfl rfl (shG hb (by omega)) rfl ?_
  refine zeP rfl rfl ?_
  refine zeP rfl rfl ?_
  refine zeGI rfl rfl (shG he (by omega)) rfl rfl ?_
  rw [show (((zm2 ((zm2 ((zcpy ((zm2 ((zm2 ((zm2 ((zm2 m ((b + 14 + 7 * t)) 0 (m ((c + 14 + 7 * t)) 0))) ((b + 14 + 7 * t)) 1 (m ((c + 14 + 7 * t)) 1))) ((b + 14 + 7 * t)) 2 (m ((c + 14 + 7 * t)) 2))) ((b + 14 + 7 * t)) 3 (m ((c + 14 + 7 * t)) 3))) ((c + 15 + 7 * t)) ((b + 15 + 7 * t)) 0 0 4)) ((b + 14 + 7 * t)) 5 (m ((c + 14 + 7 * t)) 5))) ((b + 14 + 7 * t)) 6 (m ((c + 14 + 7 * t)) 6))) ((c + 14 + 7 * t)) 7) = m ((c + 14 + 7 * t)) 7 from (by simp (disch := omega) only [zx_ne, zcpy_ne, zx_ne])]
  refine zePI rfl rfl (shG hb (by omega)) rfl ?_
  refine zeP rfl rfl ?_
  refine zeGR rfl rfl (shG he (by omega)) rfl rfl ?_
  refine zeKn (c := 0) rfl rfl rfl ?_
  refine zeP rfl rfl ?_
  refine zeGR rfl rfl (shG hb (by omega)) rfl rfl ?_
  refine zeKn (c := 0) rfl rfl rfl ?_
  refine zeKn (c := 32) rfl rfl rfl ?_
  refine zeCPY rfl rfl (shV he (by omega)) (shV hb (by omega)) (by omega) (by omega) (by omega) (by omega) rfl ?_
  refine zeP rfl rfl ?_
  refine zeP rfl rfl ?_
  refine zeGI rfl rfl (shG he (by omega)) rfl rfl ?_
  rw [show (((zcpy ((zm2 ((zm2 ((zm2 ((zcpy ((zm2 ((zm2 ((zm2 ((zm2 m ((b + 14 + 7 * t)) 0 (m ((c + 14 + 7 * t)) 0))) ((b + 14 + 7 * t)) 1 (m ((c + 14 + 7 * t)) 1))) ((b + 14 + 7 * t)) 2 (m ((c + 14 + 7 * t)) 2))) ((b + 14 + 7 * t)) 3 (m ((c + 14 + 7 * t)) 3))) ((c + 15 + 7 * t)) ((b + 15 + 7 * t)) 0 0 4)) ((b + 14 + 7 * t)) 5 (m ((c + 14 + 7 * t)) 5))) ((b + 14 + 7 * t)) 6 (m ((c + 14 + 7 * t)) 6))) ((b + 14 + 7 * t)) 7 (m ((c + 14 + 7 * t)) 7))) ((c + 16 + 7 * t)) ((b + 16 + 7 * t)) 0 0 32)) ((c + 14 + 7 * t)) 9) = m ((c + 14 + 7 * t)) 9 from (by simp (disch := omega) only [zx_ne, zcpy_ne, zx_ne])]
  refine zePI rfl rfl (shG hb (by omega)) rfl ?_
  exact zeRe rfl rfl rfl rfl (by rfl) (by rfl)
theorem xc_guessCp {σ : Nat → Nat × (Nat → Int32)} {yy : (Nat → Nat → Int64) × Bool × Nat × Nat} {m : Nat → Nat → Int32} {b : Nat} {t : Nat} {c : Nat} (hb : BB b) (he : BB c) (ht : t < 4) (hbc : b + 42 ≤ c ∨ c + 42 ≤ b) (hon : m (c + 14 + 7 * t) 0 = 0 ∨ m (c + 14 + 7 * t) 0 = 1) : zF σ 1 1 [.ref (b + 14 + 7 * t), .ref (c + 14 + 7 * t)] (zS1, m, yy) (.inl none) (zS1, ((x_guessCp m b t c)), yy) := by
  intro d hd
  obtain ⟨d, rfl⟩ : ∃ k, d = k + 1 := ⟨d - 1, by omega⟩
  exact xp_guessCp hd hb he ht hbc hon
theorem guessCp_ne {m : Nat → Nat → Int32} {b t c i l : Nat} (h : i < b + 14 + 7 * t ∨ b + 17 + 7 * t ≤ i) : x_guessCp m b t c i l = m i l := by
  unfold x_guessCp
  simp (disch := omega) only [zx_ne, zcpy_ne]
theorem lockCp_ne {m : Nat → Nat → Int32} {b t c i l : Nat} (h : i ≠ b + 5 + t) : x_lockCp m b t c i l = m i l := by
  unfold x_lockCp
  simp (disch := omega) only [zx_ne, zcpy_ne]
noncomputable def x_strandCp (m : Nat → Nat → Int32) (b : Nat) (t : Nat) (c : Nat) : (Nat → Nat → Int32) := (x_guessCp ((zcpy ((zm2 ((zm2 ((zm2 ((zm2 ((zm2 ((zm2 ((zcpy ((zcpy m ((c + 11 + 7 * t)) ((b + 11 + 7 * t)) 0 0 24)) ((c + 12 + 7 * t)) ((b + 12 + 7 * t)) 0 0 24)) ((b + 10 + 7 * t)) 2 (m ((c + 10 + 7 * t)) 2))) ((b + 10 + 7 * t)) 3 (m ((c + 10 + 7 * t)) 3))) ((b + 10 + 7 * t)) 4 (m ((c + 10 + 7 * t)) 4))) ((b + 10 + 7 * t)) 5 (m ((c + 10 + 7 * t)) 5))) ((b + 10 + 7 * t)) 6 (m ((c + 10 + 7 * t)) 6))) ((b + 10 + 7 * t)) 7 (m ((c + 10 + 7 * t)) 7))) ((c + 13 + 7 * t)) ((b + 13 + 7 * t)) 0 0 5)) b t c)
theorem xp_strandCp {σ : Nat → Nat × (Nat → Int32)} {yy : (Nat → Nat → Int64) × Bool × Nat × Nat} {m : Nat → Nat → Int32} {b : Nat} {t : Nat} {c : Nat} {d : Nat} (hd : 2 ≤ d + 1) (hb : BB b) (he : BB c) (ht : t < 4) (hbc : b + 42 ≤ c ∨ c + 42 ≤ b) (hon : m (c + 14 + 7 * t) 0 = 0 ∨ m (c + 14 + 7 * t) 0 = 1) : zEv σ (d + 1) 1201 0 [some (.ref (b + 10 + 7 * t)), some (.ref (c + 10 + 7 * t))] [] (zS1, m, yy) (.inl none) (zS1, ((x_strandCp m b t c)), yy) := by
  refine zeP rfl rfl ?_
  refine zeGR rfl rfl (shS he (by omega)) rfl rfl ?_
  refine zeKn (c := 0) rfl rfl rfl ?_
  refine zeP rfl rfl ?_
  refine zeGR rfl rfl (shS hb (by omega)) rfl rfl ?_
  refine zeKn (c := 0) rfl rfl rfl ?_
  refine zeKn (c := 24) rfl rfl rfl ?_
  refine zeCPY rfl rfl (shK he (by omega)) (shK hb (by omega)) (by omega) (by omega) (by omega) (by omega) rfl ?_
  refine zeP rfl rfl ?_
  refine zeGR rfl rfl (shS he (by omega)) rfl rfl ?_
  refine zeKn (c := 0) rfl rfl rfl ?_
  refine zeP rfl rfl ?_
  refine zeGR rfl rfl (shS hb (by omega)) rfl rfl ?_
  refine zeKn (c := 0) rfl rfl rfl ?_
  refine zeKn (c := 24) rfl rfl rfl ?_
  refine zeCPY rfl rfl (shN he (by omega)) (shN hb (by omega)) (by omega) (by omega) (by omega) (by omega) rfl ?_
  refine zeP rfl rfl ?_
  refine zeP rfl rfl ?_
  refine zeGI rfl rfl (shS he (by omega)) rfl rfl ?_
  rw [show (((zcpy ((zcpy m ((c + 11 + 7 * t)) ((b + 11 + 7 * t)) 0 0 24)) ((c + 12 + 7 * t)) ((b + 12 + 7 * t)) 0 0 24)) ((c + 10 + 7 * t)) 2) = m ((c + 10 + 7 * t)) 2 from (by simp (disch := omega) only [zx_ne, zcpy_ne, zx_ne])]
  refine zePI rfl rfl (shS hb (by omega)) rfl ?_
  refine zeP rfl rfl ?_
  refine zeP rfl rfl ?_
  refine zeGI rfl rfl (shS he (by omega)) rfl rfl ?_
  rw [show (((zm2 ((zcpy ((zcpy m ((c + 11 + 7 * t)) ((b + 11 + 7 * t)) 0 0 24)) ((c + 12 + 7 * t)) ((b + 12 + 7 * t)) 0 0 24)) ((b + 10 + 7 * t)) 2 (m ((c + 10 + 7 * t)) 2))) ((c + 10 + 7 * t)) 3) = m ((c + 10 + 7 * t)) 3 from (by simp (disch := omega) only [zx_ne, zcpy_ne, zx_ne])]
  refine zePI rfl rfl (shS hb (by omega)) rfl ?_
  refine zeP rfl rfl ?_
  refine zeP rfl rfl ?_
  refine zeGI rfl rfl (shS he (by omega)) rfl rfl ?_
  rw [show (((zm2 ((zm2 ((zcpy ((zcpy m ((c + 11 + 7 * t)) ((b + 11 + 7 * t)) 0 0 24)) ((c + 12 + 7 * t)) ((b + 12 + 7 * t)) 0 0 24)) ((b + 10 + 7 * t)) 2 (m ((c + 10 + 7 * t)) 2))) ((b + 10 + 7 * t)) 3 (m ((c + 10 + 7 * t)) 3))) ((c + 10 + 7 * t)) 4) = m ((c + 10 + 7 * t)) 4 from (by simp (disch := omega) only [zx_ne, zcpy_ne, zx_ne])]
  refine zePI rfl rfl (shS hb (by omega)) rfl ?_
  refine zeP rfl rfl ?_
  refine zeP rfl rfl ?_
  refine zeGI rfl rfl (shS he (by omega)) rfl rfl ?_
  rw [show (((zm2 ((zm2 ((zm2 ((zcpy ((zcpy m ((c + 11 + 7 * t)) ((b + 11 + 7 * t)) 0 0 24)) ((c + 12 + 7 * t)) ((b + 12 + 7 * t)) 0 0 24)) ((b + 10 + 7 * t)) 2 (m ((c + 10 + 7 * t)) 2))) ((b + 10 + 7 * t)) 3 (m ((c + 10 + 7 * t)) 3))) ((b + 10 + 7 * t)) 4 (m ((c + 10 + 7 * t)) 4))) ((c + 10 + 7 * t)) 5) = m ((c + 10 + 7 * t)) 5 from (by simp (disch := omega) only [zx_ne, zcpy_ne, zx_ne])]
  refine zePI rfl rfl (shS hb (by omega)) rfl ?_
  refine zeP rfl rfl ?_
  refine zeP rfl rfl ?_
  refine zeGI rfl rfl (shS he (by omega)) rfl rfl ?_
  rw [show (((zm2 ((zm2 ((zm2 ((zm2 ((zcpy ((zcpy m ((c + 11 + 7 * t)) ((b + 11 + 7 * t)) 0 0 24)) ((c + 12 + 7 * t)) ((b + 12 + 7 * t)) 0 0 24)) ((b + 10 + 7 * t)) 2 (m ((c + 10 + 7 * t)) 2))) ((b + 10 + 7 * t)) 3 (m ((c + 10 + 7 * t)) 3))) ((b + 10 + 7 * t)) 4 (m ((c + 10 + 7 * t)) 4))) ((b + 10 + 7 * t)) 5 (m ((c + 10 + 7 * t)) 5))) ((c + 10 + 7 * t)) 6) = m ((c + 10 + 7 * t)) 6 from (by simp (disch := omega) only [zx_ne, zcpy_ne, zx_ne])]
  refine zePI rfl rfl (shS hb (by omega)) rfl ?_
  refine zeP rfl rfl ?_
  refine zeP rfl rfl ?_
  refine zeGI rfl rfl (shS he (by omega)) rfl rfl ?_
  rw [show (((zm2 ((zm2 ((zm2 ((zm2 ((zm2 ((zcpy ((zcpy m ((c + 11 + 7 * t)) ((b + 11 + 7 * t)) 0 0 24)) ((c + 12 + 7 * t)) ((b + 12 + 7 * t)) 0 0 24)) ((b + 10 + 7 * t)) 2 (m ((c + 10 + 7 * t)) 2))) ((b + 10 + 7 * t)) 3 (m ((c + 10 + 7 * t)) 3))) ((b + 10 + 7 * t)) 4 (m ((c + 10 + 7 * t)) 4))) ((b + 10 + 7 * t)) 5 (m ((c + 10 + 7 * t)) 5))) ((b + 10 + 7 * t)) 6 (m ((c + 10 + 7 * t)) 6))) ((c + 10 + 7 * t)) 7) = m ((c + 10 + 7 * t)) 7 from (by simp (disch := omega) only [zx_ne, zcpy_ne, zx_ne])]
  refine zePI rfl rfl (shS hb (by omega)) rfl ?_
  refine zeP rfl rfl ?_
  refine zeGR rfl rfl (shS he (by omega)) rfl rfl ?_
  refine zeKn (c := 0) rfl rfl rfl ?_
  refine zeP rfl rfl ?_
  refine zeGR rfl rfl (shS hb (by omega)) rfl rfl ?_
  refine zeKn (c := 0) rfl rfl rfl ?_
  refine zeKn (c := 5) rfl rfl rfl ?_
  refine zeCPY rfl rfl (shF he (by omega)) (shF hb (by omega)) (by omega) (by omega) (by omega) (by omega) rfl ?_
  refine zeP rfl rfl ?_
  refine zeGR rfl rfl (shS hb (by omega)) rfl rfl ?_
  refine zeP rfl rfl ?_
  refine zeGR rfl rfl (shS he (by omega)) rfl rfl ?_
  refine zeCV rfl rfl rfl rfl (shG hb (by omega)) rfl (xc_guessCp (m := (zcpy ((zm2 ((zm2 ((zm2 ((zm2 ((zm2 ((zm2 ((zcpy ((zcpy m ((c + 11 + 7 * t)) ((b + 11 + 7 * t)) 0 0 24)) ((c + 12 + 7 * t)) ((b + 12 + 7 * t)) 0 0 24)) ((b + 10 + 7 * t)) 2 (m ((c + 10 + 7 * t)) 2))) ((b + 10 + 7 * t)) 3 (m ((c + 10 + 7 * t)) 3))) ((b + 10 + 7 * t)) 4 (m ((c + 10 + 7 * t)) 4))) ((b + 10 + 7 * t)) 5 (m ((c + 10 + 7 * t)) 5))) ((b + 10 + 7 * t)) 6 (m ((c + 10 + 7 * t)) 6))) ((b + 10 + 7 * t)) 7 (m ((c + 10 + 7 * t)) 7))) ((c + 13 + 7 * t)) ((b + 13 + 7 * t)) 0 0 5)) (b := b) (t := t) (c := c) hb he ht hbc (onK (by simp (disch := omega) only [zcpy_ne, zx_ne]) hon)) (by omega) ?_
  dsimp only [Option.toList, List.cons_append, List.nil_append]
  exact zeRe rfl rfl rfl rfl (by rfl) (by rfl)
theorem xc_strandCp {σ : Nat → Nat × (Nat → Int32)} {yy : (Nat → Nat → Int64) × Bool × Nat × Nat} {m : Nat → Nat → Int32} {b : Nat} {t : Nat} {c : Nat} (hb : BB b) (he : BB c) (ht : t < 4) (hbc : b + 42 ≤ c ∨ c + 42 ≤ b) (hon : m (c + 14 + 7 * t) 0 = 0 ∨ m (c + 14 + 7 * t) 0 = 1) : zF σ 2 1201 [.ref (b + 10 + 7 * t), .ref (c + 10 + 7 * t)] (zS1, m, yy) (.inl none) (zS1, ((x_strandCp m b t c)), yy) := by
  intro d hd
  obtain ⟨d, rfl⟩ : ∃ k, d = k + 1 := ⟨d - 1, by omega⟩
  exact xp_strandCp hd hb he ht hbc hon
noncomputable def x_logCp (m : Nat → Nat → Int32) (b : Nat) (c : Nat) : (Nat → Nat → Int32) := (zm2 ((zm2 ((zcpy m ((c + 41)) ((b + 41)) 0 0 240)) ((b + 40)) 1 (m ((c + 40)) 1))) ((b + 40)) 2 (m ((c + 40)) 2))
theorem xp_logCp {σ : Nat → Nat × (Nat → Int32)} {yy : (Nat → Nat → Int64) × Bool × Nat × Nat} {m : Nat → Nat → Int32} {b : Nat} {c : Nat} {d : Nat} (hd : 1 ≤ d + 1) (hb : BB b) (he : BB c) (hbc : b + 42 ≤ c ∨ c + 42 ≤ b) : zEv σ (d + 1) 401 0 [some (.ref (b + 40)), some (.ref (c + 40))] [] (zS1, m, yy) (.inl none) (zS1, ((x_logCp m b c)), yy) := by
  refine zeP rfl rfl ?_
  refine zeGR rfl rfl (shLG he) rfl rfl ?_
  refine zeKn (c := 0) rfl rfl rfl ?_
  refine zeP rfl rfl ?_
  refine zeGR rfl rfl (shLG hb) rfl rfl ?_
  refine zeKn (c := 0) rfl rfl rfl ?_
  refine zeKn (c := 240) rfl rfl rfl ?_
  refine zeCPY rfl rfl (shC he) (shC hb) (by omega) (by omega) (by omega) (by omega) rfl ?_
  refine zeP rfl rfl ?_
  refine zeP rfl rfl ?_
  refine zeGI rfl rfl (shLG he) rfl rfl ?_
  rw [show (((zcpy m ((c + 41)) ((b + 41)) 0 0 240)) ((c + 40)) 1) = m ((c + 40)) 1 from (by simp (disch := omega) only [zx_ne, zcpy_ne, zx_ne])]
  refine zePI rfl rfl (shLG hb) rfl ?_
  refine zeP rfl rfl ?_
  refine zeP rfl rfl ?_
  refine zeGI rfl rfl (shLG he) rfl rfl ?_
  rw [show (((zm2 ((zcpy m ((c + 41)) ((b + 41)) 0 0 240)) ((b + 40)) 1 (m ((c + 40)) 1))) ((c + 40)) 2) = m ((c + 40)) 2 from (by simp (disch := omega) only [zx_ne, zcpy_ne, zx_ne])]
  refine zePI rfl rfl (shLG hb) rfl ?_
  exact zeRe rfl rfl rfl rfl (by rfl) (by rfl)
theorem xc_logCp {σ : Nat → Nat × (Nat → Int32)} {yy : (Nat → Nat → Int64) × Bool × Nat × Nat} {m : Nat → Nat → Int32} {b : Nat} {c : Nat} (hb : BB b) (he : BB c) (hbc : b + 42 ≤ c ∨ c + 42 ≤ b) : zF σ 1 401 [.ref (b + 40), .ref (c + 40)] (zS1, m, yy) (.inl none) (zS1, ((x_logCp m b c)), yy) := by
  intro d hd
  obtain ⟨d, rfl⟩ : ∃ k, d = k + 1 := ⟨d - 1, by omega⟩
  exact xp_logCp hd hb he hbc
theorem strandCp_ne {m : Nat → Nat → Int32} {b t c i l : Nat} (h : i < b + 10 + 7 * t ∨ b + 17 + 7 * t ≤ i) : x_strandCp m b t c i l = m i l := by
  unfold x_strandCp
  rw [guessCp_ne (by omega)]
  simp (disch := omega) only [zx_ne, zcpy_ne]
theorem logCp_ne {m : Nat → Nat → Int32} {b c i l : Nat} (h : i ≠ b + 40 ∧ i ≠ b + 41) : x_logCp m b c i l = m i l := by
  unfold x_logCp
  simp (disch := omega) only [zx_ne, zcpy_ne]
noncomputable def xl_copyT (b : Nat) (c : Nat) (n5 : Nat) : Nat → Nat → (Nat → Nat → Int32) → (Nat → Nat → Int32)
  | 0, k, m => (x_logCp ((zm2 ((zcpy ((zcpy ((zm2 ((zm2 ((zm2 ((zm2 m b 6 (m c 6))) b 7 (m c 7))) b 8 (m c 8))) b 9 (m c 9))) ((c + 38)) ((b + 38)) 0 0 20)) ((c + 39)) ((b + 39)) 0 0 20)) b 12 (m c 12))) b c)
  | n + 1, k, m => (xl_copyT b c n5 n ((k + 1)) ((x_strandCp m b k c)))
theorem xw_copyT {σ : Nat → Nat × (Nat → Int32)} {yy : (Nat → Nat → Int64) × Bool × Nat × Nat} {b : Nat} {c : Nat} {n5 : Nat} {d : Nat} (hd : 3 ≤ d + 1) (hb : BB b) (he : BB c) (hbc : b + 42 ≤ c ∨ c + 42 ≤ b) (hn4 : n5 ≤ 4) : ∀ (n : Nat) (k : Nat) (m : Nat → Nat → Int32), k + n = n5 → m b 5 = Int32.ofNat n5 → (∀ t, t < 4 → m (c + 14 + 7 * t) 0 = 0 ∨ m (c + 14 + 7 * t) 0 = 1) → zEv σ (d + 1) 601 83 [some (.ref b), some (.ref c), some (.int (Int32.ofNat k))] [] (zS1, m, yy) (.inl none) (zS1, ((xl_copyT b c n5 n k m)), yy) := by
  intro n
  induction n with
  | zero =>
    intro k m hk h5 hon
    refine zeP rfl rfl ?_
    refine zeP rfl rfl ?_
    refine zeGI rfl rfl (shM hb) rfl rfl ?_
    rw [h5]
    refine zeT2 rfl rfl (zcge (by omega) (by omega) (by omega)) ?_
    refine zeP rfl rfl ?_
    refine zeP rfl rfl ?_
    refine zeGI rfl rfl (shM he) rfl rfl ?_
    refine zePI rfl rfl (shM hb) rfl ?_
    refine zeP rfl rfl ?_
    refine zeP rfl rfl ?_
    refine zeGI rfl rfl (shM he) rfl rfl ?_
    rw [show (((zm2 m b 6 (m c 6))) c 7) = m c 7 from (by simp (disch := omega) only [zx_ne, zcpy_ne, zx_ne])]
    refine zePI rfl rfl (shM hb) rfl ?_
    refine zeP rfl rfl ?_
    refine zeP rfl rfl ?_
    refine zeGI rfl rfl (shM he) rfl rfl ?_
    rw [show (((zm2 ((zm2 m b 6 (m c 6))) b 7 (m c 7))) c 8) = m c 8 from (by simp (disch := omega) only [zx_ne, zcpy_ne, zx_ne])]
    refine zePI rfl rfl (shM hb) rfl ?_
    refine zeP rfl rfl ?_
    refine zeP rfl rfl ?_
    refine zeGI rfl rfl (shM he) rfl rfl ?_
    rw [show (((zm2 ((zm2 ((zm2 m b 6 (m c 6))) b 7 (m c 7))) b 8 (m c 8))) c 9) = m c 9 from (by simp (disch := omega) only [zx_ne, zcpy_ne, zx_ne])]
    refine zePI rfl rfl (shM hb) rfl ?_
    refine zeP rfl rfl ?_
    refine zeGR rfl rfl (shM he) rfl rfl ?_
    refine zeKn (c := 0) rfl rfl rfl ?_
    refine zeP rfl rfl ?_
    refine zeGR rfl rfl (shM hb) rfl rfl ?_
    refine zeKn (c := 0) rfl rfl rfl ?_
    refine zeKn (c := 20) rfl rfl rfl ?_
    refine zeCPY rfl rfl (shOT he) (shOT hb) (by omega) (by omega) (by omega) (by omega) rfl ?_
    refine zeP rfl rfl ?_
    refine zeGR rfl rfl (shM he) rfl rfl ?_
    refine zeKn (c := 0) rfl rfl rfl ?_
    refine zeP rfl rfl ?_
    refine zeGR rfl rfl (shM hb) rfl rfl ?_
    refine zeKn (c := 0) rfl rfl rfl ?_
    refine zeKn (c := 20) rfl rfl rfl ?_
    refine zeCPY rfl rfl (shOS he) (shOS hb) (by omega) (by omega) (by omega) (by omega) rfl ?_
    refine zeP rfl rfl ?_
    refine zeP rfl rfl ?_
    refine zeGI rfl rfl (shM he) rfl rfl ?_
    rw [show (((zcpy ((zcpy ((zm2 ((zm2 ((zm2 ((zm2 m b 6 (m c 6))) b 7 (m c 7))) b 8 (m c 8))) b 9 (m c 9))) ((c + 38)) ((b + 38)) 0 0 20)) ((c + 39)) ((b + 39)) 0 0 20)) c 12) = m c 12 from (by simp (disch := omega) only [zx_ne, zcpy_ne, zx_ne])]
    refine zePI rfl rfl (shM hb) rfl ?_
    refine zeP rfl rfl ?_
    refine zeGR rfl rfl (shM hb) rfl rfl ?_
    refine zeP rfl rfl ?_
    refine zeGR rfl rfl (shM he) rfl rfl ?_
    refine zeCV rfl rfl rfl rfl (shLG hb) rfl (xc_logCp (m := (zm2 ((zcpy ((zcpy ((zm2 ((zm2 ((zm2 ((zm2 m b 6 (m c 6))) b 7 (m c 7))) b 8 (m c 8))) b 9 (m c 9))) ((c + 38)) ((b + 38)) 0 0 20)) ((c + 39)) ((b + 39)) 0 0 20)) b 12 (m c 12))) (b := b) (c := c) hb he hbc) (by omega) ?_
    dsimp only [Option.toList, List.cons_append, List.nil_append]
    exact zeRe rfl rfl rfl rfl (by rfl) (by rfl)
  | succ n ih =>
    intro k m hk h5 hon
    refine zeP rfl rfl ?_
    refine zeP rfl rfl ?_
    refine zeGI rfl rfl (shM hb) rfl rfl ?_
    rw [h5]
    refine zeF2 rfl rfl (zcge_f (by omega) (by omega) (by omega)) ?_
    refine zeP rfl rfl ?_
    refine zeKn (c := 4) rfl rfl rfl ?_
    refine zeF2 rfl rfl (zcge_f (by omega) (by omega) (by omega)) ?_
    refine zeP rfl rfl ?_
    refine zeGR rfl rfl (shM hb) rfl rfl ?_
    refine zeP rfl rfl ?_
    refine zeRL (k := k) rfl (shSA hb) rfl rfl (by omega) (rvS (by omega)) ?_
    refine zeP rfl rfl ?_
    refine zeGR rfl rfl (shM he) rfl rfl ?_
    refine zeP rfl rfl ?_
    refine zeRL (k := k) rfl (shSA he) rfl rfl (by omega) (rvS (by omega)) ?_
    refine zeCV rfl rfl rfl rfl (shS hb (by omega)) rfl (xc_strandCp (m := m) (b := b) (t := k) (c := c) hb he (by omega) hbc (hon k (by omega))) (by omega) ?_
    dsimp only [Option.toList, List.cons_append, List.nil_append]
    refine zeInc rfl rfl ?_
    refine zeP rfl rfl ?_
    simp only [xl_copyT, cond_true, cond_false]
    exact ih ((k + 1))  ((x_strandCp m b k c)) (by omega) (by rw [strandCp_ne (by omega)]; exact h5) (fun t ht => by rw [strandCp_ne (by omega)]; exact hon t ht)
noncomputable def xl_copyK (b : Nat) (c : Nat) (n5 : Nat) : Nat → Nat → (Nat → Nat → Int32) → (Nat → Nat → Int32)
  | 0, k, m => (xl_copyT b c n5 n5 0 ((zm2 m b 5 (Int32.ofNat n5))))
  | n + 1, k, m => (xl_copyK b c n5 n ((k + 1)) ((x_lockCp m b k c)))
theorem xw_copyK {σ : Nat → Nat × (Nat → Int32)} {yy : (Nat → Nat → Int64) × Bool × Nat × Nat} {b : Nat} {c : Nat} {n5 : Nat} {d : Nat} (hd : 3 ≤ d + 1) (hb : BB b) (he : BB c) (hbc : b + 42 ≤ c ∨ c + 42 ≤ b) (hn4 : n5 ≤ 4) : ∀ (n : Nat) (k : Nat) (m : Nat → Nat → Int32), k + n = 4 → m c 5 = Int32.ofNat n5 → (∀ t, t < 4 → m (c + 14 + 7 * t) 0 = 0 ∨ m (c + 14 + 7 * t) 0 = 1) → zEv σ (d + 1) 601 47 [some (.ref b), some (.ref c), some (.int (Int32.ofNat k))] [] (zS1, m, yy) (.inl none) (zS1, ((xl_copyK b c n5 n k m)), yy) := by
  intro n
  induction n with
  | zero =>
    intro k m hk h5 hon
    refine zeP rfl rfl ?_
    refine zeKn (c := 4) rfl rfl rfl ?_
    refine zeT2 rfl rfl (zcge (by omega) (by omega) (by omega)) ?_
    refine zeP rfl rfl ?_
    refine zeP rfl rfl ?_
    refine zeGI rfl rfl (shM he) rfl rfl ?_
    rw [h5]
    refine zePI rfl rfl (shM hb) rfl ?_
    refine zeKn (c := 0) rfl rfl rfl ?_
    refine zeP rfl rfl ?_
    simp only [xl_copyK, cond_true, cond_false]
    exact xw_copyT (b := b) (c := c) (n5 := n5) (by omega) hb he hbc hn4 n5 (0)  ((zm2 m b 5 (Int32.ofNat n5))) (by omega) (zx_at _ _ _ _) (fun t ht => by rw [zx_ne _ _ _ (by omega)]; exact hon t ht)
  | succ n ih =>
    intro k m hk h5 hon
    refine zeP rfl rfl ?_
    refine zeKn (c := 4) rfl rfl rfl ?_
    refine zeF2 rfl rfl (zcge_f (by omega) (by omega) (by omega)) ?_
    refine zeP rfl rfl ?_
    refine zeGR rfl rfl (shM hb) rfl rfl ?_
    refine zeP rfl rfl ?_
    refine zeRL (k := k) rfl (shLA hb) rfl rfl (by omega) (rvL (by omega)) ?_
    refine zeP rfl rfl ?_
    refine zeGR rfl rfl (shM he) rfl rfl ?_
    refine zeP rfl rfl ?_
    refine zeRL (k := k) rfl (shLA he) rfl rfl (by omega) (rvL (by omega)) ?_
    refine zeCV rfl rfl rfl rfl (shL hb (by omega)) rfl (xc_lockCp (m := m) (b := b) (l := k) (c := c) hb he (by omega) hbc) (by omega) ?_
    dsimp only [Option.toList, List.cons_append, List.nil_append]
    refine zeInc rfl rfl ?_
    refine zeP rfl rfl ?_
    simp only [xl_copyK, cond_true, cond_false]
    exact ih ((k + 1))  ((x_lockCp m b k c)) (by omega) (by rw [lockCp_ne (by omega)]; exact h5) (fun t ht => by rw [lockCp_ne (by omega)]; exact hon t ht)
noncomputable def x_copyFrom (m : Nat → Nat → Int32) (b : Nat) (c : Nat) : (Nat → Nat → Int32) := (xl_copyK b c ((mv m c 5)) 4 0 ((zcpy ((zcpy ((zcpy m ((c + 1)) ((b + 1)) 0 0 32)) ((c + 2)) ((b + 2)) 0 0 32)) ((c + 3)) ((b + 3)) 0 0 9)))
theorem xp_copyFrom {σ : Nat → Nat × (Nat → Int32)} {yy : (Nat → Nat → Int64) × Bool × Nat × Nat} {m : Nat → Nat → Int32} {b : Nat} {c : Nat} {d : Nat} (hd : 3 ≤ d + 1) (hb : BB b) (he : BB c) (hbc : b + 42 ≤ c ∨ c + 42 ≤ b) (h5 : m c 5 = Int32.ofNat (mv m c 5)) (hn4 : mv m c 5 ≤ 4) (hon : (∀ t, t < 4 → m (c + 14 + 7 * t) 0 = 0 ∨ m (c + 14 + 7 * t) 0 = 1)) : zEv σ (d + 1) 601 0 [some (.ref b), some (.ref c), none] [] (zS1, m, yy) (.inl none) (zS1, ((x_copyFrom m b c)), yy) := by
  refine zeP rfl rfl ?_
  refine zeGR rfl rfl (shM he) rfl rfl ?_
  refine zeKn (c := 0) rfl rfl rfl ?_
  refine zeP rfl rfl ?_
  refine zeGR rfl rfl (shM hb) rfl rfl ?_
  refine zeKn (c := 0) rfl rfl rfl ?_
  refine zeKn (c := 32) rfl rfl rfl ?_
  refine zeCPY rfl rfl (shW he) (shW hb) (by omega) (by omega) (by omega) (by omega) rfl ?_
  refine zeP rfl rfl ?_
  refine zeGR rfl rfl (shM he) rfl rfl ?_
  refine zeKn (c := 0) rfl rfl rfl ?_
  refine zeP rfl rfl ?_
  refine zeGR rfl rfl (shM hb) rfl rfl ?_
  refine zeKn (c := 0) rfl rfl rfl ?_
  refine zeKn (c := 32) rfl rfl rfl ?_
  refine zeCPY rfl rfl (shT he) (shT hb) (by omega) (by omega) (by omega) (by omega) rfl ?_
  refine zeP rfl rfl ?_
  refine zeGR rfl rfl (shM he) rfl rfl ?_
  refine zeKn (c := 0) rfl rfl rfl ?_
  refine zeP rfl rfl ?_
  refine zeGR rfl rfl (shM hb) rfl rfl ?_
  refine zeKn (c := 0) rfl rfl rfl ?_
  refine zeKn (c := 9) rfl rfl rfl ?_
  refine zeCPY rfl rfl (shE he) (shE hb) (by omega) (by omega) (by omega) (by omega) rfl ?_
  refine zeKn (c := 0) rfl rfl rfl ?_
  refine zeP rfl rfl ?_
  simp only [x_copyFrom, cond_true, cond_false]
  exact xw_copyK (b := b) (c := c) (n5 := (mv m c 5)) (by omega) hb he hbc hn4 4 (0)  ((zcpy ((zcpy ((zcpy m ((c + 1)) ((b + 1)) 0 0 32)) ((c + 2)) ((b + 2)) 0 0 32)) ((c + 3)) ((b + 3)) 0 0 9)) (by omega) (by simp (disch := omega) only [zcpy_ne]; exact h5) (fun t ht => by simp (disch := omega) only [zcpy_ne]; exact hon t ht)
theorem xc_copyFrom {σ : Nat → Nat × (Nat → Int32)} {yy : (Nat → Nat → Int64) × Bool × Nat × Nat} {m : Nat → Nat → Int32} {b : Nat} {c : Nat} (hb : BB b) (he : BB c) (hbc : b + 42 ≤ c ∨ c + 42 ≤ b) (h5 : m c 5 = Int32.ofNat (mv m c 5)) (hn4 : mv m c 5 ≤ 4) (hon : (∀ t, t < 4 → m (c + 14 + 7 * t) 0 = 0 ∨ m (c + 14 + 7 * t) 0 = 1)) : zF σ 3 601 [.ref b, .ref c] (zS1, m, yy) (.inl none) (zS1, ((x_copyFrom m b c)), yy) := by
  intro d hd
  obtain ⟨d, rfl⟩ : ∃ k, d = k + 1 := ⟨d - 1, by omega⟩
  exact xp_copyFrom hd hb he hbc h5 hn4 hon
