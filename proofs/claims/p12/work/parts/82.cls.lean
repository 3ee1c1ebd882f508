theorem zx_ne (m : Nat → Nat → Int32) {a k i : Nat} (x : Int32) (l : Nat) (h : i ≠ a) : zm2 m a k x i l = m i l := by
  unfold zm2
  rw [if_neg h]
theorem zx_at (m : Nat → Nat → Int32) (a k : Nat) (x : Int32) : zm2 m a k x a k = x := by
  unfold zm2
  rw [if_pos rfl]
  exact upd_at _ _ _
theorem zx_nk (m : Nat → Nat → Int32) {a k l : Nat} (x : Int32) (h : l ≠ k) : zm2 m a k x a l = m a l := by
  unfold zm2
  rw [if_pos rfl]
  exact upd_ne _ _ h
/-- the nat number in a cell of the class -/
noncomputable def mv (m : Nat → Nat → Int32) (a k : Nat) : Nat := (m a k).toNatClampNeg
theorem c1lt {p : Nat} (h : p < 2147483648) : zc1 .lt (Int32.ofNat p) = false := by
  apply decide_eq_false
  rw [Int32.lt_iff_toInt_lt, zoN h, Int32.toInt_zero]
  omega
theorem zclt {a b : Nat} (ha : a < 2147483648) (hb : b < 2147483648) (h : a < b) : zc2 .lt (Int32.ofNat a) (Int32.ofNat b) = true := by
  apply decide_eq_true
  rw [Int32.lt_iff_toInt_lt, zoN ha, zoN hb]
  omega
noncomputable def x_kindAt (m : Nat → Nat → Int32) (b : Nat) (t : Nat) (p : Nat) : Int32 := (m ((b + 11 + 7 * t)) p)
theorem xp_kindAt {σ : Nat → Nat × (Nat → Int32)} {yy : (Nat → Nat → Int64) × Bool × Nat × Nat} {m : Nat → Nat → Int32} {b : Nat} {t : Nat} {p : Nat} {d : Nat} (hd : 1 ≤ d + 1) (hb : BB b) (ht : t < 4) (hp : p < 24) : zEv σ (d + 1) 1204 0 [some (.ref (b + 10 + 7 * t)), some (.int (Int32.ofNat p))] [] (zS1, m, yy) (.inl (some (.int (x_kindAt m b t p)))) (zS1, m, yy) := by
  refine zeP rfl rfl ?_
  refine zeF1 rfl rfl (c1lt (by first | exact zq_adn (by decide) | exact zq_adr (zq_adn (by decide)) | omega)) ?_
  refine zeP rfl rfl ?_
  refine zeKn (c := 24) rfl rfl rfl ?_
  refine zeF2 rfl rfl (zcge_f (by first | exact zq_adn (by decide) | exact zq_adr (zq_adn (by decide)) | omega) (by first | exact zq_adn (by decide) | exact zq_adr (zq_adn (by decide)) | omega) (by first | exact zq_adn (by decide) | exact zq_adr (zq_adn (by decide)) | omega)) ?_
  refine zeP rfl rfl ?_
  refine zeGR rfl rfl (shS hb (by first | exact zq_adn (by decide) | exact zq_adr (zq_adn (by decide)) | omega)) rfl rfl ?_
  refine zeP rfl rfl ?_
  refine zeAL (k := p) rfl (bbl hb (by first | exact zq_adn (by decide) | exact zq_adr (zq_adn (by decide)) | omega) (by first | exact zq_adn (by decide) | exact zq_adr (zq_adn (by decide)) | omega)) (shK hb (by first | exact zq_adn (by decide) | exact zq_adr (zq_adn (by decide)) | omega)) rfl (by first | exact zq_adn (by decide) | exact zq_adr (zq_adn (by decide)) | omega) ?_
  refine zeP rfl rfl ?_
  exact zeRe rfl rfl rfl rfl (by rfl) (by rfl)
theorem xc_kindAt {σ : Nat → Nat × (Nat → Int32)} {yy : (Nat → Nat → Int64) × Bool × Nat × Nat} {m : Nat → Nat → Int32} {b : Nat} {t : Nat} {p : Nat} (hb : BB b) (ht : t < 4) (hp : p < 24) : zF σ 1 1204 [.ref (b + 10 + 7 * t), .int (Int32.ofNat p)] (zS1, m, yy) (.inl (some (.int (x_kindAt m b t p)))) (zS1, m, yy) := by
  intro d hd
  obtain ⟨d, rfl⟩ : ∃ k, d = k + 1 := ⟨d - 1, by omega⟩
  exact xp_kindAt hd hb ht hp
noncomputable def x_numberAt (m : Nat → Nat → Int32) (b : Nat) (t : Nat) (p : Nat) : Int32 := (m ((b + 12 + 7 * t)) p)
theorem xp_numberAt {σ : Nat → Nat × (Nat → Int32)} {yy : (Nat → Nat → Int64) × Bool × Nat × Nat} {m : Nat → Nat → Int32} {b : Nat} {t : Nat} {p : Nat} {d : Nat} (hd : 1 ≤ d + 1) (hb : BB b) (ht : t < 4) (hp : p < 24) : zEv σ (d + 1) 1205 0 [some (.ref (b + 10 + 7 * t)), some (.int (Int32.ofNat p))] [] (zS1, m, yy) (.inl (some (.int (x_numberAt m b t p)))) (zS1, m, yy) := by
  refine zeP rfl rfl ?_
  refine zeF1 rfl rfl (c1lt (by first | exact zq_adn (by decide) | exact zq_adr (zq_adn (by decide)) | omega)) ?_
  refine zeP rfl rfl ?_
  refine zeKn (c := 24) rfl rfl rfl ?_
  refine zeF2 rfl rfl (zcge_f (by first | exact zq_adn (by decide) | exact zq_adr (zq_adn (by decide)) | omega) (by first | exact zq_adn (by decide) | exact zq_adr (zq_adn (by decide)) | omega) (by first | exact zq_adn (by decide) | exact zq_adr (zq_adn (by decide)) | omega)) ?_
  refine zeP rfl rfl ?_
  refine zeGR rfl rfl (shS hb (by first | exact zq_adn (by decide) | exact zq_adr (zq_adn (by decide)) | omega)) rfl rfl ?_
  refine zeP rfl rfl ?_
  refine zeAL (k := p) rfl (bbl hb (by first | exact zq_adn (by decide) | exact zq_adr (zq_adn (by decide)) | omega) (by first | exact zq_adn (by decide) | exact zq_adr (zq_adn (by decide)) | omega)) (shN hb (by first | exact zq_adn (by decide) | exact zq_adr (zq_adn (by decide)) | omega)) rfl (by first | exact zq_adn (by decide) | exact zq_adr (zq_adn (by decide)) | omega) ?_
  refine zeP rfl rfl ?_
  exact zeRe rfl rfl rfl rfl (by rfl) (by rfl)
theorem xc_numberAt {σ : Nat → Nat × (Nat → Int32)} {yy : (Nat → Nat → Int64) × Bool × Nat × Nat} {m : Nat → Nat → Int32} {b : Nat} {t : Nat} {p : Nat} (hb : BB b) (ht : t < 4) (hp : p < 24) : zF σ 1 1205 [.ref (b + 10 + 7 * t), .int (Int32.ofNat p)] (zS1, m, yy) (.inl (some (.int (x_numberAt m b t p)))) (zS1, m, yy) := by
  intro d hd
  obtain ⟨d, rfl⟩ : ∃ k, d = k + 1 := ⟨d - 1, by omega⟩
  exact xp_numberAt hd hb ht hp
noncomputable def x_logAdd (m : Nat → Nat → Int32) (b : Nat) (t : Int32) (u : Int32) (w : Int32) (v : Int32) : (Nat → Nat → Int32) := (bif zc2 .ge (((zm2 ((zm2 ((zm2 ((zm2 ((zm2 m ((b + 41)) (((mv m (b + 40) 2) * 4)) t)) ((b + 41)) ((((mv m (b + 40) 2) * 4) + 1)) u)) ((b + 41)) ((((mv m (b + 40) 2) * 4) + 2)) w)) ((b + 41)) ((((mv m (b + 40) 2) * 4) + 3)) v)) ((b + 40)) 2 (Int32.ofNat ((mv m (b + 40) 2 + 1) % 60)))) ((b + 40)) 1) (Int32.ofNat 60) then (zm2 ((zm2 ((zm2 ((zm2 ((zm2 m ((b + 41)) (((mv m (b + 40) 2) * 4)) t)) ((b + 41)) ((((mv m (b + 40) 2) * 4) + 1)) u)) ((b + 41)) ((((mv m (b + 40) 2) * 4) + 2)) w)) ((b + 41)) ((((mv m (b + 40) 2) * 4) + 3)) v)) ((b + 40)) 2 (Int32.ofNat ((mv m (b + 40) 2 + 1) % 60))) else (zm2 ((zm2 ((zm2 ((zm2 ((zm2 ((zm2 m ((b + 41)) (((mv m (b + 40) 2) * 4)) t)) ((b + 41)) ((((mv m (b + 40) 2) * 4) + 1)) u)) ((b + 41)) ((((mv m (b + 40) 2) * 4) + 2)) w)) ((b + 41)) ((((mv m (b + 40) 2) * 4) + 3)) v)) ((b + 40)) 2 (Int32.ofNat ((mv m (b + 40) 2 + 1) % 60)))) ((b + 40)) 1 ((((zm2 ((zm2 ((zm2 ((zm2 ((zm2 m ((b + 41)) (((mv m (b + 40) 2) * 4)) t)) ((b + 41)) ((((mv m (b + 40) 2) * 4) + 1)) u)) ((b + 41)) ((((mv m (b + 40) 2) * 4) + 2)) w)) ((b + 41)) ((((mv m (b + 40) 2) * 4) + 3)) v)) ((b + 40)) 2 (Int32.ofNat ((mv m (b + 40) 2 + 1) % 60)))) ((b + 40)) 1) + (Int32.ofNat 1))))
theorem xp_logAdd {σ : Nat → Nat × (Nat → Int32)} {yy : (Nat → Nat → Int64) × Bool × Nat × Nat} {m : Nat → Nat → Int32} {b : Nat} {t : Int32} {u : Int32} {w : Int32} {v : Int32} {d : Nat} (hd : 1 ≤ d + 1) (hb : BB b) (hn : m (b + 40) 2 = Int32.ofNat (mv m (b + 40) 2)) (hn60 : mv m (b + 40) 2 < 60) : zEv σ (d + 1) 402 0 [some (.ref (b + 40)), some (.int t), some (.int u), some (.int w), some (.int v), none] [] (zS1, m, yy) (.inl none) (zS1, ((x_logAdd m b t u w v)), yy) := by
  refine zeP rfl rfl ?_
  refine zeGI rfl rfl (shLG hb) rfl rfl ?_
  rw [hn]
  refine zeF1 rfl rfl (c1lt (by first | exact zq_adn (by decide) | exact zq_adr (zq_adn (by decide)) | omega)) ?_
  refine zeP rfl rfl ?_
  refine zeGI rfl rfl (shLG hb) rfl rfl ?_
  rw [hn]
  refine zeKn (c := 60) rfl rfl rfl ?_
  refine zeT2 rfl rfl (zclt (by first | exact zq_adn (by decide) | exact zq_adr (zq_adn (by decide)) | omega) (by first | exact zq_adn (by decide) | exact zq_adr (zq_adn (by decide)) | omega) (by first | exact zq_adn (by decide) | exact zq_adr (zq_adn (by decide)) | omega)) ?_
  refine zeP rfl rfl ?_
  refine zeGI rfl rfl (shLG hb) rfl rfl ?_
  rw [hn]
  refine zeKn (c := 4) rfl rfl rfl ?_
  refine zeMul rfl ?_
  refine zeP rfl rfl ?_
  refine zeP rfl rfl ?_
  refine zeGR rfl rfl (shLG hb) rfl rfl ?_
  refine zeP rfl rfl ?_
  refine zeP rfl rfl ?_
  refine zeAS (k := ((mv m (b + 40) 2) * 4)) rfl (shC hb) rfl (by first | exact zq_adn (by decide) | exact zq_adr (zq_adn (by decide)) | omega) ?_
  refine zeP rfl rfl ?_
  refine zeGR rfl rfl (shLG hb) rfl rfl ?_
  refine zeP rfl rfl ?_
  refine zeKn (c := 1) rfl rfl rfl ?_
  refine zeAdd rfl ?_
  refine zeP rfl rfl ?_
  refine zeAS (k := (((mv m (b + 40) 2) * 4) + 1)) rfl (shC hb) rfl (by first | exact zq_adn (by decide) | exact zq_adr (zq_adn (by decide)) | omega) ?_
  refine zeP rfl rfl ?_
  refine zeGR rfl rfl (shLG hb) rfl rfl ?_
  refine zeP rfl rfl ?_
  refine zeKn (c := 2) rfl rfl rfl ?_
  refine zeAdd rfl ?_
  refine zeP rfl rfl ?_
  refine zeAS (k := (((mv m (b + 40) 2) * 4) + 2)) rfl (shC hb) rfl (by first | exact zq_adn (by decide) | exact zq_adr (zq_adn (by decide)) | omega) ?_
  refine zeP rfl rfl ?_
  refine zeGR rfl rfl (shLG hb) rfl rfl ?_
  refine zeP rfl rfl ?_
  refine zeKn (c := 3) rfl rfl rfl ?_
  refine zeAdd rfl ?_
  refine zeP rfl rfl ?_
  refine zeAS (k := (((mv m (b + 40) 2) * 4) + 3)) rfl (shC hb) rfl (by first | exact zq_adn (by decide) | exact zq_adr (zq_adn (by decide)) | omega) ?_
  refine zeP rfl rfl ?_
  refine zeP rfl rfl ?_
  refine zeGI rfl rfl (shLG hb) rfl rfl ?_
  rw [(show (((zm2 ((zm2 ((zm2 ((zm2 m ((b + 41)) (((mv m (b + 40) 2) * 4)) t)) ((b + 41)) ((((mv m (b + 40) 2) * 4) + 1)) u)) ((b + 41)) ((((mv m (b + 40) 2) * 4) + 2)) w)) ((b + 41)) ((((mv m (b + 40) 2) * 4) + 3)) v)) ((b + 40)) 2) = Int32.ofNat (mv m (b + 40) 2) from (by simp (disch := first | exact zq_adn (by decide) | exact zq_adr (zq_adn (by decide)) | omega) only [zx_ne]; exact hn))]
  refine zeKn (c := 1) rfl rfl rfl ?_
  refine zeAdd rfl ?_
  refine zeKn (c := 60) rfl rfl rfl ?_
  refine zeRem rfl (by decide) ?_
  rw [zremN (by first | exact zq_adn (by decide) | exact zq_adr (zq_adn (by decide)) | omega) (by first | exact zq_adn (by decide) | exact zq_adr (zq_adn (by decide)) | omega)]
  refine zePI rfl rfl (shLG hb) rfl ?_
  refine zeP rfl rfl ?_
  refine zeGI rfl rfl (shLG hb) rfl rfl ?_
  refine zeKn (c := 60) rfl rfl rfl ?_
  refine zeB2 rfl rfl (fun h1 => ?_) (fun h1 => ?_)
  · exact zeRe rfl rfl rfl rfl (by simp only [x_logAdd, h1, cond_true, cond_false] <;> rfl) (by simp only [x_logAdd, h1, cond_true, cond_false] <;> rfl)
  · refine zeP rfl rfl ?_
    refine zeP rfl rfl ?_
    refine zeGI rfl rfl (shLG hb) rfl rfl ?_
    refine zeKn (c := 1) rfl rfl rfl ?_
    refine zeP rfl rfl ?_
    refine zePI rfl rfl (shLG hb) rfl ?_
    exact zeRe rfl rfl rfl rfl (by simp only [x_logAdd, h1, cond_true, cond_false] <;> rfl) (by simp only [x_logAdd, h1, cond_true, cond_false] <;> rfl)
theorem xc_logAdd {σ : Nat → Nat × (Nat → Int32)} {yy : (Nat → Nat → Int64) × Bool × Nat × Nat} {m : Nat → Nat → Int32} {b : Nat} {t : Int32} {u : Int32} {w : Int32} {v : Int32} (hb : BB b) (hn : m (b + 40) 2 = Int32.ofNat (mv m (b + 40) 2)) (hn60 : mv m (b + 40) 2 < 60) : zF σ 1 402 [.ref (b + 40), .int t, .int u, .int w, .int v] (zS1, m, yy) (.inl none) (zS1, ((x_logAdd m b t u w v)), yy) := by
  intro d hd
  obtain ⟨d, rfl⟩ : ∃ k, d = k + 1 := ⟨d - 1, by omega⟩
  exact xp_logAdd hd hb hn hn60
