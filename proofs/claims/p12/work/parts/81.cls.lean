theorem bbl {b k t : Nat} (hb : BB b) (ht : t < 4) (hk : k ≤ 60) : Nat.blt (b + k + 7 * t) 1000 = true := by
  apply Nat.ble_eq_true_of_le
  rcases hb with rfl | rfl | rfl <;> omega
theorem xp_strandAt {σ : Nat → Nat × (Nat → Int32)} {yy : (Nat → Nat → Int64) × Bool × Nat × Nat} {m : Nat → Nat → Int32} {b : Nat} {t : Nat} {d : Nat} (hd : 1 ≤ d + 1) (hb : BB b) (ht : t < 4) : zEv σ (d + 1) 602 0 [some (.ref b), some (.int (Int32.ofNat t))] [] (zS1, m, yy) (.inl (some (.ref (b + 10 + 7 * t)))) (zS1, m, yy) := by
  refine zeP rfl rfl ?_
  refine zeGR rfl rfl (shM hb) rfl rfl ?_
  refine zeP rfl rfl ?_
  refine zeKn (c := 3) rfl rfl rfl ?_
  refine zeON (c := t) rfl rfl (zand3 (by first | exact zq_adn (by decide) | exact zq_adr (zq_adn (by decide)) | omega)) ?_
  refine zeRL (k := t) rfl (shSA hb) rfl rfl (by first | exact zq_adn (by decide) | exact zq_adr (zq_adn (by decide)) | omega) (rvS (by first | exact zq_adn (by decide) | exact zq_adr (zq_adn (by decide)) | omega)) ?_
  exact zeRe rfl rfl rfl rfl (by rfl) (by rfl)
theorem xc_strandAt {σ : Nat → Nat × (Nat → Int32)} {yy : (Nat → Nat → Int64) × Bool × Nat × Nat} {m : Nat → Nat → Int32} {b : Nat} {t : Nat} (hb : BB b) (ht : t < 4) : zF σ 1 602 [.ref b, .int (Int32.ofNat t)] (zS1, m, yy) (.inl (some (.ref (b + 10 + 7 * t)))) (zS1, m, yy) := by
  intro d hd
  obtain ⟨d, rfl⟩ : ∃ k, d = k + 1 := ⟨d - 1, by omega⟩
  exact xp_strandAt hd hb ht
theorem xp_lockAt {σ : Nat → Nat × (Nat → Int32)} {yy : (Nat → Nat → Int64) × Bool × Nat × Nat} {m : Nat → Nat → Int32} {b : Nat} {l : Nat} {d : Nat} (hd : 1 ≤ d + 1) (hb : BB b) (hl : l < 4) : zEv σ (d + 1) 603 0 [some (.ref b), some (.int (Int32.ofNat l))] [] (zS1, m, yy) (.inl (some (.ref (b + 5 + l)))) (zS1, m, yy) := by
  refine zeP rfl rfl ?_
  refine zeGR rfl rfl (shM hb) rfl rfl ?_
  refine zeP rfl rfl ?_
  refine zeKn (c := 3) rfl rfl rfl ?_
  refine zeON (c := l) rfl rfl (zand3 (by first | exact zq_adn (by decide) | exact zq_adr (zq_adn (by decide)) | omega)) ?_
  refine zeRL (k := l) rfl (shLA hb) rfl rfl (by first | exact zq_adn (by decide) | exact zq_adr (zq_adn (by decide)) | omega) (rvL (by first | exact zq_adn (by decide) | exact zq_adr (zq_adn (by decide)) | omega)) ?_
  exact zeRe rfl rfl rfl rfl (by rfl) (by rfl)
theorem xc_lockAt {σ : Nat → Nat × (Nat → Int32)} {yy : (Nat → Nat → Int64) × Bool × Nat × Nat} {m : Nat → Nat → Int32} {b : Nat} {l : Nat} (hb : BB b) (hl : l < 4) : zF σ 1 603 [.ref b, .int (Int32.ofNat l)] (zS1, m, yy) (.inl (some (.ref (b + 5 + l)))) (zS1, m, yy) := by
  intro d hd
  obtain ⟨d, rfl⟩ : ∃ k, d = k + 1 := ⟨d - 1, by omega⟩
  exact xp_lockAt hd hb hl
noncomputable def x_sDone (m : Nat → Nat → Int32) (b : Nat) (t : Nat) : Int32 := (bif zc2 .lt (m ((b + 10 + 7 * t)) 3) (m ((b + 10 + 7 * t)) 2) then (Int32.ofNat 0) else (Int32.ofNat 1))
theorem xp_sDone {σ : Nat → Nat × (Nat → Int32)} {yy : (Nat → Nat → Int64) × Bool × Nat × Nat} {m : Nat → Nat → Int32} {b : Nat} {t : Nat} {d : Nat} (hd : 1 ≤ d + 1) (hb : BB b) (ht : t < 4) : zEv σ (d + 1) 1206 0 [some (.ref (b + 10 + 7 * t))] [] (zS1, m, yy) (.inl (some (.int (x_sDone m b t)))) (zS1, m, yy) := by
  refine zeP rfl rfl ?_
  refine zeGI rfl rfl (shS hb (by first | exact zq_adn (by decide) | exact zq_adr (zq_adn (by decide)) | omega)) rfl rfl ?_
  refine zeP rfl rfl ?_
  refine zeGI rfl rfl (shS hb (by first | exact zq_adn (by decide) | exact zq_adr (zq_adn (by decide)) | omega)) rfl rfl ?_
  refine zeB2 rfl rfl (fun h1 => ?_) (fun h1 => ?_)
  · refine zeKn (c := 0) rfl rfl rfl ?_
    exact zeRe rfl rfl rfl rfl (by simp only [x_sDone, h1, cond_true, cond_false] <;> rfl) (by simp only [x_sDone, h1, cond_true, cond_false] <;> rfl)
  · refine zeKn (c := 1) rfl rfl rfl ?_
    refine zeP rfl rfl ?_
    exact zeRe rfl rfl rfl rfl (by simp only [x_sDone, h1, cond_true, cond_false] <;> rfl) (by simp only [x_sDone, h1, cond_true, cond_false] <;> rfl)
theorem xc_sDone {σ : Nat → Nat × (Nat → Int32)} {yy : (Nat → Nat → Int64) × Bool × Nat × Nat} {m : Nat → Nat → Int32} {b : Nat} {t : Nat} (hb : BB b) (ht : t < 4) : zF σ 1 1206 [.ref (b + 10 + 7 * t)] (zS1, m, yy) (.inl (some (.int (x_sDone m b t)))) (zS1, m, yy) := by
  intro d hd
  obtain ⟨d, rfl⟩ : ∃ k, d = k + 1 := ⟨d - 1, by omega⟩
  exact xp_sDone hd hb ht
noncomputable def x_close (m : Nat → Nat → Int32) (b : Nat) (t : Nat) : (Nat → Nat → Int32) := (zm2 ((zm2 ((zm2 ((zm2 ((zm2 m ((b + 14 + 7 * t)) 0 (Int32.ofNat 0))) ((b + 14 + 7 * t)) 5 (Int32.ofNat 0))) ((b + 14 + 7 * t)) 6 (Int32.ofNat 0))) ((b + 14 + 7 * t)) 7 (Int32.ofNat 0))) ((b + 14 + 7 * t)) 9 (Int32.ofNat 0))
theorem xp_close {σ : Nat → Nat × (Nat → Int32)} {yy : (Nat → Nat → Int64) × Bool × Nat × Nat} {m : Nat → Nat → Int32} {b : Nat} {t : Nat} {d : Nat} (hd : 1 ≤ d + 1) (hb : BB b) (ht : t < 4) : zEv σ (d + 1) 3 0 [some (.ref (b + 14 + 7 * t))] [] (zS1, m, yy) (.inl none) (zS1, ((x_close m b t)), yy) := by
  refine zeP rfl rfl ?_
  refine zeKn (c := 0) rfl rfl rfl ?_
  refine zePB rfl rfl (shG hb (by first | exact zq_adn (by decide) | exact zq_adr (zq_adn (by decide)) | omega)) rfl (by decide) ?_
  refine zeP rfl rfl ?_
  refine zeKn (c := 0) rfl rfl rfl ?_
  refine zePI rfl rfl (shG hb (by first | exact zq_adn (by decide) | exact zq_adr (zq_adn (by decide)) | omega)) rfl ?_
  refine zeP rfl rfl ?_
  refine zeKn (c := 0) rfl rfl rfl ?_
  refine zePI rfl rfl (shG hb (by first | exact zq_adn (by decide) | exact zq_adr (zq_adn (by decide)) | omega)) rfl ?_
  refine zeP rfl rfl ?_
  refine zeKn (c := 0) rfl rfl rfl ?_
  refine zePI rfl rfl (shG hb (by first | exact zq_adn (by decide) | exact zq_adr (zq_adn (by decide)) | omega)) rfl ?_
  refine zeP rfl rfl ?_
  refine zeKn (c := 0) rfl rfl rfl ?_
  refine zePI rfl rfl (shG hb (by first | exact zq_adn (by decide) | exact zq_adr (zq_adn (by decide)) | omega)) rfl ?_
  exact zeRe rfl rfl rfl rfl (by rfl) (by rfl)
theorem xc_close {σ : Nat → Nat × (Nat → Int32)} {yy : (Nat → Nat → Int64) × Bool × Nat × Nat} {m : Nat → Nat → Int32} {b : Nat} {t : Nat} (hb : BB b) (ht : t < 4) : zF σ 1 3 [.ref (b + 14 + 7 * t)] (zS1, m, yy) (.inl none) (zS1, ((x_close m b t)), yy) := by
  intro d hd
  obtain ⟨d, rfl⟩ : ∃ k, d = k + 1 := ⟨d - 1, by omega⟩
  exact xp_close hd hb ht
noncomputable def x_begin (m : Nat → Nat → Int32) (b : Nat) (t : Nat) (x : Int32) (y : Int32) (z : Int32) : (Nat → Nat → Int32) := (zm2 ((zm2 ((zm2 ((zm2 m ((b + 14 + 7 * t)) 0 (Int32.ofNat 1))) ((b + 14 + 7 * t)) 1 x)) ((b + 14 + 7 * t)) 2 y)) ((b + 14 + 7 * t)) 3 z)
theorem xp_begin {σ : Nat → Nat × (Nat → Int32)} {yy : (Nat → Nat → Int64) × Bool × Nat × Nat} {m : Nat → Nat → Int32} {b : Nat} {t : Nat} {x : Int32} {y : Int32} {z : Int32} {d : Nat} (hd : 1 ≤ d + 1) (hb : BB b) (ht : t < 4) : zEv σ (d + 1) 2 0 [some (.ref (b + 14 + 7 * t)), some (.int x), some (.int y), some (.int z)] [] (zS1, m, yy) (.inl none) (zS1, ((x_begin m b t x y z)), yy) := by
  refine zeP rfl rfl ?_
  refine zeKn (c := 1) rfl rfl rfl ?_
  refine zePB rfl rfl (shG hb (by first | exact zq_adn (by decide) | exact zq_adr (zq_adn (by decide)) | omega)) rfl (by decide) ?_
  refine zeP rfl rfl ?_
  refine zeP rfl rfl ?_
  refine zePI rfl rfl (shG hb (by first | exact zq_adn (by decide) | exact zq_adr (zq_adn (by decide)) | omega)) rfl ?_
  refine zeP rfl rfl ?_
  refine zeP rfl rfl ?_
  refine zePI rfl rfl (shG hb (by first | exact zq_adn (by decide) | exact zq_adr (zq_adn (by decide)) | omega)) rfl ?_
  refine zeP rfl rfl ?_
  refine zeP rfl rfl ?_
  refine zePI rfl rfl (shG hb (by first | exact zq_adn (by decide) | exact zq_adr (zq_adn (by decide)) | omega)) rfl ?_
  exact zeRe rfl rfl rfl rfl (by rfl) (by rfl)
theorem xc_begin {σ : Nat → Nat × (Nat → Int32)} {yy : (Nat → Nat → Int64) × Bool × Nat × Nat} {m : Nat → Nat → Int32} {b : Nat} {t : Nat} {x : Int32} {y : Int32} {z : Int32} (hb : BB b) (ht : t < 4) : zF σ 1 2 [.ref (b + 14 + 7 * t), .int x, .int y, .int z] (zS1, m, yy) (.inl none) (zS1, ((x_begin m b t x y z)), yy) := by
  intro d hd
  obtain ⟨d, rfl⟩ : ∃ k, d = k + 1 := ⟨d - 1, by omega⟩
  exact xp_begin hd hb ht
noncomputable def x_hasValue (m : Nat → Nat → Int32) (b : Nat) (t : Nat) (w : Int32) : Int32 := (bif zc1 .eq ((((m ((b + 14 + 7 * t)) 9)).toUInt32 >>> (w.toUInt32 &&& Int32.toUInt32 31)).toInt32 &&& (Int32.ofNat 1)) then (Int32.ofNat 0) else (Int32.ofNat 1))
theorem xp_hasValue {σ : Nat → Nat × (Nat → Int32)} {yy : (Nat → Nat → Int64) × Bool × Nat × Nat} {m : Nat → Nat → Int32} {b : Nat} {t : Nat} {w : Int32} {d : Nat} (hd : 1 ≤ d + 1) (hb : BB b) (ht : t < 4) : zEv σ (d + 1) 8 0 [some (.ref (b + 14 + 7 * t)), some (.int w)] [] (zS1, m, yy) (.inl (some (.int (x_hasValue m b t w)))) (zS1, m, yy) := by
  refine zeP rfl rfl ?_
  refine zeGI rfl rfl (shG hb (by first | exact zq_adn (by decide) | exact zq_adr (zq_adn (by decide)) | omega)) rfl rfl ?_
  refine zeP rfl rfl ?_
  refine zeP rfl rfl ?_
  refine zeKn (c := 1) rfl rfl rfl ?_
  refine zeP rfl rfl ?_
  refine zeB1 rfl rfl (fun h1 => ?_) (fun h1 => ?_)
  · refine zeKn (c := 0) rfl rfl rfl ?_
    exact zeRe rfl rfl rfl rfl (by simp only [x_hasValue, h1, cond_true, cond_false] <;> rfl) (by simp only [x_hasValue, h1, cond_true, cond_false] <;> rfl)
  · refine zeKn (c := 1) rfl rfl rfl ?_
    refine zeP rfl rfl ?_
    exact zeRe rfl rfl rfl rfl (by simp only [x_hasValue, h1, cond_true, cond_false] <;> rfl) (by simp only [x_hasValue, h1, cond_true, cond_false] <;> rfl)
theorem xc_hasValue {σ : Nat → Nat × (Nat → Int32)} {yy : (Nat → Nat → Int64) × Bool × Nat × Nat} {m : Nat → Nat → Int32} {b : Nat} {t : Nat} {w : Int32} (hb : BB b) (ht : t < 4) : zF σ 1 8 [.ref (b + 14 + 7 * t), .int w] (zS1, m, yy) (.inl (some (.int (x_hasValue m b t w)))) (zS1, m, yy) := by
  intro d hd
  obtain ⟨d, rfl⟩ : ∃ k, d = k + 1 := ⟨d - 1, by omega⟩
  exact xp_hasValue hd hb ht
noncomputable def x_gain (m : Nat → Nat → Int32) (b : Nat) (l : Nat) (x : Int32) : (Nat → Nat → Int32) := (bif zc2 .ge ((m ((b + 5 + l)) 1) + x) (Int32.ofNat 15) then (zm2 m ((b + 5 + l)) 1 (Int32.ofNat 15)) else (zm2 m ((b + 5 + l)) 1 ((m ((b + 5 + l)) 1) + x)))
theorem xp_gain {σ : Nat → Nat × (Nat → Int32)} {yy : (Nat → Nat → Int64) × Bool × Nat × Nat} {m : Nat → Nat → Int32} {b : Nat} {l : Nat} {x : Int32} {d : Nat} (hd : 1 ≤ d + 1) (hb : BB b) (hl : l < 4) : zEv σ (d + 1) 202 0 [some (.ref (b + 5 + l)), some (.int x)] [] (zS1, m, yy) (.inl none) (zS1, ((x_gain m b l x)), yy) := by
  refine zeP rfl rfl ?_
  refine zeP rfl rfl ?_
  refine zeGI rfl rfl (shL hb (by first | exact zq_adn (by decide) | exact zq_adr (zq_adn (by decide)) | omega)) rfl rfl ?_
  refine zeP rfl rfl ?_
  refine zeP rfl rfl ?_
  refine zeKn (c := 15) rfl rfl rfl ?_
  refine zeB2 rfl rfl (fun h1 => ?_) (fun h1 => ?_)
  · refine zeKn (c := 15) rfl rfl rfl ?_
    refine zePI rfl rfl (shL hb (by first | exact zq_adn (by decide) | exact zq_adr (zq_adn (by decide)) | omega)) rfl ?_
    exact zeRe rfl rfl rfl rfl (by simp only [x_gain, h1, cond_true, cond_false] <;> rfl) (by simp only [x_gain, h1, cond_true, cond_false] <;> rfl)
  · refine zeP rfl rfl ?_
    refine zeGI rfl rfl (shL hb (by first | exact zq_adn (by decide) | exact zq_adr (zq_adn (by decide)) | omega)) rfl rfl ?_
    refine zeP rfl rfl ?_
    refine zeP rfl rfl ?_
    refine zeP rfl rfl ?_
    refine zePI rfl rfl (shL hb (by first | exact zq_adn (by decide) | exact zq_adr (zq_adn (by decide)) | omega)) rfl ?_
    exact zeRe rfl rfl rfl rfl (by simp only [x_gain, h1, cond_true, cond_false] <;> rfl) (by simp only [x_gain, h1, cond_true, cond_false] <;> rfl)
theorem xc_gain {σ : Nat → Nat × (Nat → Int32)} {yy : (Nat → Nat → Int64) × Bool × Nat × Nat} {m : Nat → Nat → Int32} {b : Nat} {l : Nat} {x : Int32} (hb : BB b) (hl : l < 4) : zF σ 1 202 [.ref (b + 5 + l), .int x] (zS1, m, yy) (.inl none) (zS1, ((x_gain m b l x)), yy) := by
  intro d hd
  obtain ⟨d, rfl⟩ : ∃ k, d = k + 1 := ⟨d - 1, by omega⟩
  exact xp_gain hd hb hl
noncomputable def x_lose (m : Nat → Nat → Int32) (b : Nat) (l : Nat) (x : Int32) : (Nat → Nat → Int32) := (bif zc2 .le (m ((b + 5 + l)) 1) x then (zm2 m ((b + 5 + l)) 1 (Int32.ofNat 0)) else (zm2 m ((b + 5 + l)) 1 ((m ((b + 5 + l)) 1) - x)))
theorem xp_lose {σ : Nat → Nat × (Nat → Int32)} {yy : (Nat → Nat → Int64) × Bool × Nat × Nat} {m : Nat → Nat → Int32} {b : Nat} {l : Nat} {x : Int32} {d : Nat} (hd : 1 ≤ d + 1) (hb : BB b) (hl : l < 4) : zEv σ (d + 1) 203 0 [some (.ref (b + 5 + l)), some (.int x)] [] (zS1, m, yy) (.inl none) (zS1, ((x_lose m b l x)), yy) := by
  refine zeP rfl rfl ?_
  refine zeP rfl rfl ?_
  refine zeGI rfl rfl (shL hb (by first | exact zq_adn (by decide) | exact zq_adr (zq_adn (by decide)) | omega)) rfl rfl ?_
  refine zeP rfl rfl ?_
  refine zeB2 rfl rfl (fun h1 => ?_) (fun h1 => ?_)
  · refine zeKn (c := 0) rfl rfl rfl ?_
    refine zePI rfl rfl (shL hb (by first | exact zq_adn (by decide) | exact zq_adr (zq_adn (by decide)) | omega)) rfl ?_
    exact zeRe rfl rfl rfl rfl (by simp only [x_lose, h1, cond_true, cond_false] <;> rfl) (by simp only [x_lose, h1, cond_true, cond_false] <;> rfl)
  · refine zeP rfl rfl ?_
    refine zeGI rfl rfl (shL hb (by first | exact zq_adn (by decide) | exact zq_adr (zq_adn (by decide)) | omega)) rfl rfl ?_
    refine zeP rfl rfl ?_
    refine zeP rfl rfl ?_
    refine zeP rfl rfl ?_
    refine zePI rfl rfl (shL hb (by first | exact zq_adn (by decide) | exact zq_adr (zq_adn (by decide)) | omega)) rfl ?_
    exact zeRe rfl rfl rfl rfl (by simp only [x_lose, h1, cond_true, cond_false] <;> rfl) (by simp only [x_lose, h1, cond_true, cond_false] <;> rfl)
theorem xc_lose {σ : Nat → Nat × (Nat → Int32)} {yy : (Nat → Nat → Int64) × Bool × Nat × Nat} {m : Nat → Nat → Int32} {b : Nat} {l : Nat} {x : Int32} (hb : BB b) (hl : l < 4) : zF σ 1 203 [.ref (b + 5 + l), .int x] (zS1, m, yy) (.inl none) (zS1, ((x_lose m b l x)), yy) := by
  intro d hd
  obtain ⟨d, rfl⟩ : ∃ k, d = k + 1 := ⟨d - 1, by omega⟩
  exact xp_lose hd hb hl
