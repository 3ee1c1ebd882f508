/-! 94.cls a0.prule a1.pref a2.pref -/
section
theorem bb1 : BB 1 := Or.inl rfl
theorem bb43 : BB 43 := Or.inr (Or.inl rfl)
theorem bb85 : BB 85 := Or.inr (Or.inr rfl)
noncomputable def zcpy (m : Nat → Nat → Int32) (a0 a1 s p n : Nat) : Nat → Nat → Int32 := fun i => if i = a1 then va_cpy (m a0) (m a1) s p n else m i
theorem zon_ge {a : Nat} (h : a < 2147483648) : decide (¬ Int32.ofNat a < 0) = true := by
  apply decide_eq_true
  rw [Int32.lt_iff_toInt_lt, zoN h, Int32.toInt_zero]
  omega
theorem zeCPY {σ : Nat → Nat × (Nat → Int32)} {d j pc : Nat} {lv : zLv} {r : List Value} {S : List (Nat × Nat × List Nat)} {m : Nat → Nat → Int32} {y : (Nat → Nat → Int64) × Bool × Nat × Nat} {o : zO} {M' : zMem} {idx q pl a0 a1 n n0 n1 s p : Nat} {r0 r1 : List Nat} (hf : zfe j pc = some (.invokestatic idx, 3)) (hl : (zmp (j / 200)).lookup idx = some (5, q, pl)) (h0 : S[a0]? = some (10, n0, r0)) (h1 : S[a1]? = some (10, n1, r1)) (hb0 : s + n ≤ n0) (hb1 : p + n ≤ n1) (hn0 : n0 ≤ 2000) (hn1 : n1 ≤ 2000) (hr : Nat.ble ((r.map fun v => v.category).sum) 8 = true) (kk : zEv σ d j (pc + 3) lv r (S, zcpy m a0 a1 s p n, y) o M') : zEv σ d j pc lv (.int (Int32.ofNat n) :: .int (Int32.ofNat p) :: .ref a1 :: .int (Int32.ofNat s) :: .ref a0 :: r) (S, m, y) o M' := by
  refine zeS hf rfl ?_ kk
  have e1 : (Int32.ofNat n).toNatClampNeg = n := nv_on (by omega)
  have e2 : (Int32.ofNat p).toNatClampNeg = p := nv_on (by omega)
  have e3 : (Int32.ofNat s).toNatClampNeg = s := nv_on (by omega)
  have b1 : Nat.ble (s + n) n0 = true := Nat.ble_eq_true_of_le hb0
  have b2 : Nat.ble (p + n) n1 = true := Nat.ble_eq_true_of_le hb1
  have d1 := zon_ge (a := n) (by omega)
  have d2 := zon_ge (a := p) (by omega)
  have d3 := zon_ge (a := s) (by omega)
  simp only [zS, zacp, hl, h0, h1, e1, e2, e3, b1, b2, d1, d2, d3, hr, beq_self_eq_true, Bool.and_self, cond_true]
  rfl
noncomputable def x_lockCopy (m : Nat → Nat → Int32) (b : Nat) (l : Nat) (c : Nat) : (Nat → Nat → Int32) := (zm2 ((zm2 ((zm2 ((zm2 m ((b + 5 + l)) 0 (m ((c + 5 + l)) 0))) ((b + 5 + l)) 1 (((zm2 m ((b + 5 + l)) 0 (m ((c + 5 + l)) 0))) ((c + 5 + l)) 1))) ((b + 5 + l)) 2 (((zm2 ((zm2 m ((b + 5 + l)) 0 (m ((c + 5 + l)) 0))) ((b + 5 + l)) 1 (((zm2 m ((b + 5 + l)) 0 (m ((c + 5 + l)) 0))) ((c + 5 + l)) 1))) ((c + 5 + l)) 2))) ((b + 5 + l)) 3 (((zm2 ((zm2 ((zm2 m ((b + 5 + l)) 0 (m ((c + 5 + l)) 0))) ((b + 5 + l)) 1 (((zm2 m ((b + 5 + l)) 0 (m ((c + 5 + l)) 0))) ((c + 5 + l)) 1))) ((b + 5 + l)) 2 (((zm2 ((zm2 m ((b + 5 + l)) 0 (m ((c + 5 + l)) 0))) ((b + 5 + l)) 1 (((zm2 m ((b + 5 + l)) 0 (m ((c + 5 + l)) 0))) ((c + 5 + l)) 1))) ((c + 5 + l)) 2))) ((c + 5 + l)) 3))
theorem xp_lockCopy {σ : Nat → Nat × (Nat → Int32)} {yy : (Nat → Nat → Int64) × Bool × Nat × Nat} {m : Nat → Nat → Int32} {b : Nat} {l : Nat} {c : Nat} {d : Nat} (hd : 1 ≤ d + 1) (hb : BB b) (he : BB c) (hl : l < 4) : zEv σ (d + 1) 201 0 [some (.ref (b + 5 + l)), some (.ref (c + 5 + l))] [] (zS1, m, yy) (.inl none) (zS1, ((x_lockCopy m b l c)), yy) := by
  refine zeP rfl rfl ?_
  refine zeP rfl rfl ?_
  refine zeGI rfl rfl (shL he (by omega)) rfl rfl ?_
  refine zePI rfl rfl (shL hb (by omega)) rfl ?_
  refine zeP rfl rfl ?_
  refine zeP rfl rfl ?_
  refine zeGI rfl rfl (shL he (by omega)) rfl rfl ?_
  refine zePI rfl rfl (shL hb (by omega)) rfl ?_
  refine zeP rfl rfl ?_
  refine zeP rfl rfl ?_
  refine zeGI rfl rfl (shL he (by omega)) rfl rfl ?_
  refine zePI rfl rfl (shL hb (by omega)) rfl ?_
  refine zeP rfl rfl ?_
  refine zeP rfl rfl ?_
  refine zeGI rfl rfl (shL he (by omega)) rfl rfl ?_
  refine zePI rfl rfl (shL hb (by omega)) rfl ?_
  exact zeRe rfl rfl rfl rfl (by rfl) (by rfl)
theorem xc_lockCopy {σ : Nat → Nat × (Nat → Int32)} {yy : (Nat → Nat → Int64) × Bool × Nat × Nat} {m : Nat → Nat → Int32} {b : Nat} {l : Nat} {c : Nat} (hb : BB b) (he : BB c) (hl : l < 4) : zF σ 1 201 [.ref (b + 5 + l), .ref (c + 5 + l)] (zS1, m, yy) (.inl none) (zS1, ((x_lockCopy m b l c)), yy) := by
  intro d hd
  obtain ⟨d, rfl⟩ : ∃ k, d = k + 1 := ⟨d - 1, by omega⟩
  exact xp_lockCopy hd hb he hl
noncomputable def x_guessCopy (m : Nat → Nat → Int32) (b : Nat) (t : Nat) (c : Nat) : (Nat → Nat → Int32) := (zm2 ((zcpy ((zm2 ((zm2 ((zm2 ((zcpy ((zm2 ((zm2 ((zm2 ((zm2 m ((b + 14 + 7 * t)) 0 (m ((c + 14 + 7 * t)) 0))) ((b + 14 + 7 * t)) 1 (((zm2 m ((b + 14 + 7 * t)) 0 (m ((c + 14 + 7 * t)) 0))) ((c + 14 + 7 * t)) 1))) ((b + 14 + 7 * t)) 2 (((zm2 ((zm2 m ((b + 14 + 7 * t)) 0 (m ((c + 14 + 7 * t)) 0))) ((b + 14 + 7 * t)) 1 (((zm2 m ((b + 14 + 7 * t)) 0 (m ((c + 14 + 7 * t)) 0))) ((c + 14 + 7 * t)) 1))) ((c + 14 + 7 * t)) 2))) ((b + 14 + 7 * t)) 3 (((zm2 ((zm2 ((zm2 m ((b + 14 + 7 * t)) 0 (m ((c + 14 + 7 * t)) 0))) ((b + 14 + 7 * t)) 1 (((zm2 m ((b + 14 + 7 * t)) 0 (m ((c + 14 + 7 * t)) 0))) ((c + 14 + 7 * t)) 1))) ((b + 14 + 7 * t)) 2 (((zm2 ((zm2 m ((b + 14 + 7 * t)) 0 (m ((c + 14 + 7 * t)) 0))) ((b + 14 + 7 * t)) 1 (((zm2 m ((b + 14 + 7 * t)) 0 (m ((c + 14 + 7 * t)) 0))) ((c + 14 + 7 * t)) 1))) ((c + 14 + 7 * t)) 2))) ((c + 14 + 7 * t)) 3))) ((c + 15 + 7 * t)) ((b + 15 + 7 * t)) 0 0 4)) ((b + 14 + 7 * t)) 5 (((zcpy ((zm2 ((zm2 ((zm2 ((zm2 m ((b + 14 + 7 * t)) 0 (m ((c + 14 + 7 * t)) 0))) ((b + 14 + 7 * t)) 1 (((zm2 m ((b + 14 + 7 * t)) 0 (m ((c + 14 + 7 * t)) 0))) ((c + 14 + 7 * t)) 1))) ((b + 14 + 7 * t)) 2 (((zm2 ((zm2 m ((b + 14 + 7 * t)) 0 (m ((c + 14 + 7 * t)) 0))) ((b + 14 + 7 * t)) 1 (((zm2 m ((b + 14 + 7 * t)) 0 (m ((c + 14 + 7 * t)) 0))) ((c + 14 + 7 * t)) 1))) ((c + 14 + 7 * t)) 2))) ((b + 14 + 7 * t)) 3 (((zm2 ((zm2 ((zm2 m ((b + 14 + 7 * t)) 0 (m ((c + 14 + 7 * t)) 0))) ((b + 14 + 7 * t)) 1 (((zm2 m ((b + 14 + 7 * t)) 0 (m ((c + 14 + 7 * t)) 0))) ((c + 14 + 7 * t)) 1))) ((b + 14 + 7 * t)) 2 (((zm2 ((zm2 m ((b + 14 + 7 * t)) 0 (m ((c + 14 + 7 * t)) 0))) ((b + 14 + 7 * t)) 1 (((zm2 m ((b + 14 + 7 * t)) 0 (m ((c + 14 + 7 * t)) 0))) ((c + 14 + 7 * t)) 1))) ((c + 14 + 7 * t)) 2))) ((c + 14 + 7 * t)) 3))) ((c + 15 + 7 * t)) ((b + 15 + 7 * t)) 0 0 4)) ((c + 14 + 7 * t)) 5))) ((b + 14 + 7 * t)) 6 (((zm2 ((zcpy ((zm2 ((zm2 ((zm2 ((zm2 m ((b + 14 + 7 * t)) 0 (m ((c + 14 + 7 * t)) 0))) ((b + 14 + 7 * t)) 1 (((zm2 m ((b + 14 + 7 * t)) 0 (m ((c + 14 + 7 * t)) 0))) ((c + 14 + 7 * t)) 1))) ((b + 14 + 7 * t)) 2 (((zm2 ((zm2 m ((b + 14 + 7 * t)) 0 (m ((c + 14 + 7 * t)) 0))) ((b + 14 + 7 * t)) 1 (((zm2 m ((b + 14 + 7 * t)) 0 (m ((c + 14 + 7 * t)) 0))) ((c + 14 + 7 * t)) 1))) ((c + 14 + 7 * t)) 2))) ((b + 14 + 7 * t)) 3 (((zm2 ((zm2 ((zm2 m ((b + 14 + 7 * t)) 0 (m ((c + 14 + 7 * t)) 0))) ((b + 14 + 7 * t)) 1 (((zm2 m ((b + 14 + 7 * t)) 0 (m ((c + 14 + 7 * t)) 0))) ((c + 14 + 7 * t)) 1))) ((b + 14 + 7 * t)) 2 (((zm2 ((zm2 m ((b + 14 + 7 * t)) 0 (m ((c + 14 + 7 * t)) 0))) ((b + 14 + 7 * t)) 1 (((zm2 m ((b + 14 + 7 * t)) 0 (m ((c + 14 + 7 * t)) 0))) ((c + 14 + 7 * t)) 1))) ((c + 14 + 7 * t)) 2))) ((c + 14 + 7 * t)) 3))) ((c + 15 + 7 * t)) ((b + 15 + 7 * t)) 0 0 4)) ((b + 14 + 7 * t)) 5 (((zcpy ((zm2 ((zm2 ((zm2 ((zm2 m ((b + 14 + 7 * t)) 0 (m ((c + 14 + 7 * t)) 0))) ((b + 14 + 7 * t)) 1 (((zm2 m ((b + 14 + 7 * t)) 0 (m ((c + 14 + 7 * t)) 0))) ((c + 14 + 7 * t)) 1))) ((b + 14 + 7 * t)) 2 (((zm2 ((zm2 m ((b + 14 + 7 * t)) 0 (m ((c + 14 + 7 * t)) 0))) ((b + 14 + 7 * t)) 1 (((zm2 m ((b + 14 + 7 * t)) 0 (m ((c + 14 + 7 * t)) 0))) ((c + 14 + 7 * t)) 1))) ((c + 14 + 7 * t)) 2))) ((b + 14 + 7 * t)) 3 (((zm2 ((zm2 ((zm2 m ((b + 14 + 7 * t)) 0 (m ((c + 14 + 7 * t)) 0))) ((b + 14 + 7 * t)) 1 (((zm2 m ((b + 14 + 7 * t)) 0 (m ((c + 14 + 7 * t)) 0))) ((c + 14 + 7 * t)) 1))) ((b + 14 + 7 * t)) 2 (((zm2 ((zm2 m ((b + 14 + 7 * t)) 0 (m ((c + 14 + 7 * t)) 0))) ((b + 14 + 7 * t)) 1 (((zm2 m ((b + 14 + 7 * t)) 0 (m ((c + 14 + 7 * t)) 0))) ((c + 14 + 7 * t)) 1))) ((c + 14 + 7 * t)) 2))) ((c + 14 + 7 * t)) 3))) ((c + 15 + 7 * t)) ((b + 15 + 7 * t)) 0 0 4)) ((c + 14 + 7 * t)) 5))) ((c + 14 + 7 * t)) 6))) ((b + 14 + 7 * t)) 7 (((zm2 ((zm2 ((zcpy ((zm2 ((zm2 ((zm2 ((zm2 m ((b + 14 + 7 * t)) 0 (m ((c + 14 + 7 * t)) 0))) ((b + 14 + 7 * t)) 1 (((zm2 m ((b + 14 + 7 * t)) 0 (m ((c + 14 + 7 * t)) 0))) ((c + 14 + 7 * t)) 1))) ((b + 14 + 7 * t)) 2 (((zm2 ((zm2 m ((b + 14 + 7 * t)) 0 (m ((c + 14 + 7 * t)) 0))) ((b + 14 + 7 * t)) 1 (((zm2 m ((b + 14 + 7 * t)) 0 (m ((c + 14 + 7 * t)) 0))) ((c + 14 + 7 * t)) 1))) ((c + 14 + 7 * t)) 2))) ((b + 14 + 7 * t)) 3 (((zm2 ((zm2 ((zm2 m ((b + 14 + 7 * t)) 0 (m ((c + 14 + 7 * t)) 0))) ((b + 14 + 7 * t)) 1 (((zm2 m ((b + 14 + 7 * t)) 0 (m ((c + 14 + 7 * t)) 0))) ((c + 14 + 7 * t)) 1))) ((b + 14 + 7 * t)) 2 (((zm2 ((zm2 m ((b + 14 + 7 * t)) 0 (m ((c + 14 + 7 * t)) 0))) ((b + 14 + 7 * t)) 1 (((zm2 m ((b + 14 + 7 * t)) 0 (m ((c + 14 + 7 * t)) 0))) ((c + 14 + 7 * t)) 1))) ((c + 14 + 7 * t)) 2))) ((c + 14 + 7 * t)) 3))) ((c + 15 + 7 * t)) ((b + 15 + 7 * t)) 0 0 4)) ((b + 14 + 7 * t)) 5 (((zcpy ((zm2 ((zm2 ((zm2 ((zm2 m ((b + 14 + 7 * t)) 0 (m ((c + 14 + 7 * t)) 0))) ((b + 14 + 7 * t)) 1 (((zm2 m ((b + 14 + 7 * t)) 0 (m ((c + 14 + 7 * t)) 0))) ((c + 14 + 7 * t)) 1))) ((b + 14 + 7 * t)) 2 (((zm2 ((zm2 m ((b + 14 + 7 * t)) 0 (m ((c + 14 + 7 * t)) 0))) ((b + 14 + 7 * t)) 1 (((zm2 m ((b + 14 + 7 * t)) 0 (m ((c + 14 + 7 * t)) 0))) ((c + 14 + 7 * t)) 1))) ((c + 14 + 7 * t)) 2))) ((b + 14 + 7 * t)) 3 (((zm2 ((zm2 ((zm2 m ((b + 14 + 7 * t)) 0 (m ((c + 14 + 7 * t)) 0))) ((b + 14 + 7 * t)) 1 (((zm2 m ((b + 14 + 7 * t)) 0 (m ((c + 14 + 7 * t)) 0))) ((c + 14 + 7 * t)) 1))) ((b + 14 + 7 * t)) 2 (((zm2 ((zm2 m ((b + 14 + 7 * t)) 0 (m ((c + 14 + 7 * t)) 0))) ((b + 14 + 7 * t)) 1 (((zm2 m ((b + 14 + 7 * t)) 0 (m ((c + 14 + 7 * t)) 0))) ((c + 14 + 7 * t)) 1))) ((c + 14 + 7 * t)) 2))) ((c + 14 + 7 * t)) 3))) ((c + 15 + 7 * t)) ((b + 15 + 7 * t)) 0 0 4)) ((c + 14 + 7 * t)) 5))) ((b + 14 + 7 * t)) 6 (((zm2 ((zcpy ((zm2 ((zm2 ((zm2 ((zm2 m ((b + 14 + 7 * t)) 0 (m ((c + 14 + 7 * t)) 0))) ((b + 14 + 7 * t)) 1 (((zm2 m ((b + 14 + 7 * t)) 0 (m ((c + 14 + 7 * t)) 0))) ((c + 14 + 7 * t)) 1))) ((b + 14 + 7 * t)) 2 (((zm2 ((zm2 m ((b + 14 + 7 * t)) 0 (m ((c + 14 + 7 * t)) 0))) ((b + 14 + 7 * t)) 1 (((zm2 m ((b + 14 + 7 * t)) 0 (m ((c + 14 + 7 * t)) 0))) ((c + 14 + 7 * t)) 1))) ((c + 14 + 7 * t)) 2))) ((b + 14 + 7 * t)) 3 (((zm2 ((zm2 ((zm2 m ((b + 14 + 7 * t)) 0 (m ((c + 14 + 7 * t)) 0))) ((b + 14 + 7 * t)) 1 (((zm2 m ((b + 14 + 7 * t)) 0 (m ((c + 14 + 7 * t)) 0))) ((c + 14 + 7 * t)) 1))) ((b + 14 + 7 * t)) 2 (((zm2 ((zm2 m ((b + 14 + 7 * t)) 0 (m ((c + 14 + 7 * t)) 0))) ((b + 14 + 7 * t)) 1 (((zm2 m ((b + 14 + 7 * t)) 0 (m ((c + 14 + 7 * t)) 0))) ((c + 14 + 7 * t)) 1))) ((c + 14 + 7 * t)) 2))) ((c + 14 + 7 * t)) 3))) ((c + 15 + 7 * t)) ((b + 15 + 7 * t)) 0 0 4)) ((b + 14 + 7 * t)) 5 (((zcpy ((zm2 ((zm2 ((zm2 ((zm2 m ((b + 14 + 7 * t)) 0 (m ((c + 14 + 7 * t)) 0))) ((b + 14 + 7 * t)) 1 (((zm2 m ((b + 14 + 7 * t)) 0 (m ((c + 14 + 7 * t)) 0))) ((c + 14 + 7 * t)) 1))) ((b + 14 + 7 * t)) 2 (((zm2 ((zm2 m ((b + 14 + 7 * t)) 0 (m ((c + 14 + 7 * t)) 0))) ((b + 14 + 7 * t)) 1 (((zm2 m ((b + 14 + 7 * t)) 0 (m ((c + 14 + 7 * t)) 0))) ((c + 14 + 7 * t)) 1))) ((c + 14 + 7 * t)) 2))) ((b + 14 + 7 * t)) 3 (((zm2 ((zm2 ((zm2 m ((b + 14 + 7 * t)) 0 (m ((c + 14 + 7 * t)) 0))) ((b + 14 + 7 * t)) 1 (((zm2 m ((b + 14 + 7 * t)) 0 (m ((c + 14 + 7 * t)) 0))) ((c + 14 + 7 * t)) 1))) ((b + 14 + 7 * t)) 2 (((zm2 ((zm2 m ((b + 14 + 7 * t)) 0 (m ((c + 14 + 7 * t)) 0))) ((b + 14 + 7 * t)) 1 (((zm2 m ((b + 14 + 7 * t)) 0 (m ((c + 14 + 7 * t)) 0))) ((c + 14 + 7 * t)) 1))) ((c + 14 + 7 * t)) 2))) ((c + 14 + 7 * t)) 3))) ((c + 15 + 7 * t)) ((b + 15 + 7 * t)) 0 0 4)) ((c + 14 + 7 * t)) 5))) ((c + 14 + 7 * t)) 6))) ((c + 14 + 7 * t)) 7))) ((c + 16 + 7 * t)) ((b + 16 + 7 * t)) 0 0 32)) ((b + 14 + 7 * t)) 9 (((zcpy ((zm2 ((zm2 ((zm2 ((zcpy ((zm2 ((zm2 ((zm2 ((zm2 m ((b + 14 + 7 * t)) 0 (m ((c + 14 + 7 * t)) 0))) ((b + 14 + 7 * t)) 1 (((zm2 m ((b + 14 + 7 * t)) 0 (m ((c + 14 + 7 * t)) 0))) ((c + 14 + 7 * t)) 1))) ((b + 14 + 7 * t)) 2 (((zm2 ((zm2 m ((b + 14 + 7 * t)) 0 (m ((c + 14 + 7 * t)) 0))) ((b + 14 + 7 * t)) 1 (((zm2 m ((b + 14 + 7 * t)) 0 (m ((c + 14 + 7 * t)) 0))) ((c + 14 + 7 * t)) 1))) ((c + 14 + 7 * t)) 2))) ((b + 14 + 7 * t)) 3 (((zm2 ((zm2 ((zm2 m ((b + 14 + 7 * t)) 0 (m ((c + 14 + 7 * t)) 0))) ((b + 14 + 7 * t)) 1 (((zm2 m ((b + 14 + 7 * t)) 0 (m ((c + 14 + 7 * t)) 0))) ((c + 14 + 7 * t)) 1))) ((b + 14 + 7 * t)) 2 (((zm2 ((zm2 m ((b + 14 + 7 * t)) 0 (m ((c + 14 + 7 * t)) 0))) ((b + 14 + 7 * t)) 1 (((zm2 m ((b + 14 + 7 * t)) 0 (m ((c + 14 + 7 * t)) 0))) ((c + 14 + 7 * t)) 1))) ((c + 14 + 7 * t)) 2))) ((c + 14 + 7 * t)) 3))) ((c + 15 + 7 * t)) ((b + 15 + 7 * t)) 0 0 4)) ((b + 14 + 7 * t)) 5 (((zcpy ((zm2 ((zm2 ((zm2 ((zm2 m ((b + 14 + 7 * t)) 0 (m ((c + 14 + 7 * t)) 0))) ((b + 14 + 7 * t)) 1 (((zm2 m ((b + 14 + 7 * t)) 0 (m ((c + 14 + 7 * t)) 0))) ((c + 14 + 7 * t)) 1))) ((b + 14 + 7 * t)) 2 (((zm2 ((zm2 m ((b + 14 + 7 * t)) 0 (m ((c + 14 + 7 * t)) 0))) ((b + 14 + 7 * t)) 1 (((zm2 m ((b + 14 + 7 * t)) 0 (m ((c + 14 + 7 * t)) 0))) ((c + 14 + 7 * t)) 1))) ((c + 14 + 7 * t)) 2))) ((b + 14 + 7 * t)) 3 (((zm2 ((zm2 ((zm2 m ((b + 14 + 7 * t)) 0 (m ((c + 14 + 7 * t)) 0))) ((b + 14 + 7 * t)) 1 (((zm2 m ((b + 14 + 7 * t)) 0 (m ((c + 14 + 7 * t)) 0))) ((c + 14 + 7 * t)) 1))) ((b + 14 + 7 * t)) 2 (((zm2 ((zm2 m ((b + 14 + 7 * t)) 0 (m ((c + 14 + 7 * t)) 0))) ((b + 14 + 7 * t)) 1 (((zm2 m ((b + 14 + 7 * t)) 0 (m ((c + 14 + 7 * t)) 0))) ((c + 14 + 7 * t)) 1))) ((c + 14 + 7 * t)) 2))) ((c + 14 + 7 * t)) 3))) ((c + 15 + 7 * t)) ((b + 15 + 7 * t)) 0 0 4)) ((c + 14 + 7 * t)) 5))) ((b + 14 + 7 * t)) 6 (((zm2 ((zcpy ((zm2 ((zm2 ((zm2 ((zm2 m ((b + 14 + 7 * t)) 0 (m ((c + 14 + 7 * t)) 0))) ((b + 14 + 7 * t)) 1 (((zm2 m ((b + 14 + 7 * t)) 0 (m ((c + 14 + 7 * t)) 0))) ((c + 14 + 7 * t)) 1))) ((b + 14 + 7 * t)) 2 (((zm2 ((zm2 m ((b + 14 + 7 * t)) 0 (m ((c + 14 + 7 * t)) 0))) ((b + 14 + 7 * t)) 1 (((zm2 m ((b + 14 + 7 * t)) 0 (m ((c + 14 + 7 * t)) 0))) ((c + 14 + 7 * t)) 1))) ((c + 14 + 7 * t)) 2))) ((b + 14 + 7 * t)) 3 (((zm2 ((zm2 ((zm2 m ((b + 14 + 7 * t)) 0 (m ((c + 14 + 7 * t)) 0))) ((b + 14 + 7 * t)) 1 (((zm2 m ((b + 14 + 7 * t)) 0 (m ((c + 14 + 7 * t)) 0))) ((c + 14 + 7 * t)) 1))) ((b + 14 + 7 * t)) 2 (((zm2 ((zm2 m ((b + 14 + 7 * t)) 0 (m ((c + 14 + 7 * t)) 0))) ((b + 14 + 7 * t)) 1 (((zm2 m ((b + 14 + 7 * t)) 0 (m ((c + 14 + 7 * t)) 0))) ((c + 14 + 7 * t)) 1))) ((c + 14 + 7 * t)) 2))) ((c + 14 + 7 * t)) 3))) ((c + 15 + 7 * t)) ((b + 15 + 7 * t)) 0 0 4)) ((b + 14 + 7 * t)) 5 (((zcpy ((zm2 ((zm2 ((zm2 ((zm2 m ((b + 14 + 7 * t)) 0 (m ((c + 14 + 7 * t)) 0))) ((b + 14 + 7 * t)) 1 (((zm2 m ((b + 14 + 7 * t)) 0 (m ((c + 14 + 7 * t)) 0))) ((c + 14 + 7 * t)) 1))) ((b + 14 + 7 * t)) 2 (((zm2 ((zm2 m ((b + 14 + 7 * t)) 0 (m ((c + 14 + 7 * t)) 0))) ((b + 14 + 7 * t)) 1 (((zm2 m ((b + 14 + 7 * t)) 0 (m ((c + 14 + 7 * t)) 0))) ((c + 14 + 7 * t)) 1))) ((c + 14 + 7 * t)) 2))) ((b + 14 + 7 * t)) 3 (((zm2 ((zm2 ((zm2 m ((b + 14 + 7 * t)) 0 (m ((c + 14 + 7 * t)) 0))) ((b + 14 + 7 * t)) 1 (((zm2 m ((b + 14 + 7 * t)) 0 (m ((c + 14 + 7 * t)) 0))) ((c + 14 + 7 * t)) 1))) ((b + 14 + 7 * t)) 2 (((zm2 ((zm2 m ((b + 14 + 7 * t)) 0 (m ((c + 14 + 7 * t)) 0))) ((b + 14 + 7 * t)) 1 (((zm2 m ((b + 14 + 7 * t)) 0 (m ((c + 14 + 7 * t)) 0))) ((c + 14 + 7 * t)) 1))) ((c + 14 + 7 * t)) 2))) ((c + 14 + 7 * t)) 3))) ((c + 15 + 7 * t)) ((b + 15 + 7 * t)) 0 0 4)) ((c + 14 + 7 * t)) 5))) ((c + 14 + 7 * t)) 6))) ((b + 14 + 7 * t)) 7 (((zm2 ((zm2 ((zcpy ((zm2 ((zm2 ((zm2 ((zm2 m ((b + 14 + 7 * t)) 0 (m ((c + 14 + 7 * t)) 0))) ((b + 14 + 7 * t)) 1 (((zm2 m ((b + 14 + 7 * t)) 0 (m ((c + 14 + 7 * t)) 0))) ((c + 14 + 7 * t)) 1))) ((b + 14 + 7 * t)) 2 (((zm2 ((zm2 m ((b + 14 + 7 * t)) 0 (m ((c + 14 + 7 * t)) 0))) ((b + 14 + 7 * t)) 1 (((zm2 m ((b + 14 + 7 * t)) 0 (m ((c + 14 + 7 * t)) 0))) ((c + 14 + 7 * t)) 1))) ((c + 14 + 7 * t)) 2))) ((b + 14 + 7 * t)) 3 (((zm2 ((zm2 ((zm2 m ((b + 14 + 7 * t)) 0 (m ((c + 14 + 7 * t)) 0))) ((b + 14 + 7 * t)) 1 (((zm2 m ((b + 14 + 7 * t)) 0 (m ((c + 14 + 7 * t)) 0))) ((c + 14 + 7 * t)) 1))) ((b + 14 + 7 * t)) 2 (((zm2 ((zm2 m ((b + 14 + 7 * t)) 0 (m ((c + 14 + 7 * t)) 0))) ((b + 14 + 7 * t)) 1 (((zm2 m ((b + 14 + 7 * t)) 0 (m ((c + 14 + 7 * t)) 0))) ((c + 14 + 7 * t)) 1))) ((c + 14 + 7 * t)) 2))) ((c + 14 + 7 * t)) 3))) ((c + 15 + 7 * t)) ((b + 15 + 7 * t)) 0 0 4)) ((b + 14 + 7 * t)) 5 (((zcpy ((zm2 ((zm2 ((zm2 ((zm2 m ((b + 14 + 7 * t)) 0 (m ((c + 14 + 7 * t)) 0))) ((b + 14 + 7 * t)) 1 (((zm2 m ((b + 14 + 7 * t)) 0 (m ((c + 14 + 7 * t)) 0))) ((c + 14 + 7 * t)) 1))) ((b + 14 + 7 * t)) 2 (((zm2 ((zm2 m ((b + 14 + 7 * t)) 0 (m ((c + 14 + 7 * t)) 0))) ((b + 14 + 7 * t)) 1 (((zm2 m ((b + 14 + 7 * t)) 0 (m ((c + 14 + 7 * t)) 0))) ((c + 14 + 7 * t)) 1))) ((c + 14 + 7 * t)) 2))) ((b + 14 + 7 * t)) 3 (((zm2 ((zm2 ((zm2 m ((b + 14 + 7 * t)) 0 (m ((c + 14 + 7 * t)) 0))) ((b + 14 + 7 * t)) 1 (((zm2 m ((b + 14 + 7 * t)) 0 (m ((c + 14 + 7 * t)) 0))) ((c + 14 + 7 * t)) 1))) ((b + 14 + 7 * t)) 2 (((zm2 ((zm2 m ((b + 14 + 7 * t)) 0 (m ((c + 14 + 7 * t)) 0))) ((b + 14 + 7 * t)) 1 (((zm2 m ((b + 14 + 7 * t)) 0 (m ((c + 14 + 7 * t)) 0))) ((c + 14 + 7 * t)) 1))) ((c + 14 + 7 * t)) 2))) ((c + 14 + 7 * t)) 3))) ((c + 15 + 7 * t)) ((b + 15 + 7 * t)) 0 0 4)) ((c + 14 + 7 * t)) 5))) ((b + 14 + 7 * t)) 6 (((zm2 ((zcpy ((zm2 ((zm2 ((zm2 ((zm2 m ((b + 14 + 7 * t)) 0 (m ((c + 14 + 7 * t)) 0))) ((b + 14 + 7 * t)) 1 (((zm2 m ((b + 14 + 7 * t)) 0 (m ((c + 14 + 7 * t)) 0))) ((c + 14 + 7 * t)) 1))) ((b + 14 + 7 * t)) 2 (((zm2 ((zm2 m ((b + 14 + 7 * t)) 0 (m ((c + 14 + 7 * t)) 0))) ((b + 14 + 7 * t)) 1 (((zm2 m ((b + 14 + 7 * t)) 0 (m ((c + 14 + 7 * t)) 0))) ((c + 14 + 7 * t)) 1))) ((c + 14 + 7 * t)) 2))) ((b + 14 + 7 * t)) 3 (((zm2 ((zm2 ((zm2 m ((b + 14 + 7 * t)) 0 (m ((c + 14 + 7 * t)) 0))) ((b + 14 + 7 * t)) 1 (((zm2 m ((b + 14 + 7 * t)) 0 (m ((c + 14 + 7 * t)) 0))) ((c + 14 + 7 * t)) 1))) ((b + 14 + 7 * t)) 2 (((zm2 ((zm2 m ((b + 14 + 7 * t)) 0 (m ((c + 14 + 7 * t)) 0))) ((b + 14 + 7 * t)) 1 (((zm2 m ((b + 14 + 7 * t)) 0 (m ((c + 14 + 7 * t)) 0))) ((c + 14 + 7 * t)) 1))) ((c + 14 + 7 * t)) 2))) ((c + 14 + 7 * t)) 3))) ((c + 15 + 7 * t)) ((b + 15 + 7 * t)) 0 0 4)) ((b + 14 + 7 * t)) 5 (((zcpy ((zm2 ((zm2 ((zm2 ((zm2 m ((b + 14 + 7 * t)) 0 (m ((c + 14 + 7 * t)) 0))) ((b + 14 + 7 * t)) 1 (((zm2 m ((b + 14 + 7 * t)) 0 (m ((c + 14 + 7 * t)) 0))) ((c + 14 + 7 * t)) 1))) ((b + 14 + 7 * t)) 2 (((zm2 ((zm2 m ((b + 14 + 7 * t)) 0 (m ((c + 14 + 7 * t)) 0))) ((b + 14 + 7 * t)) 1 (((zm2 m ((b + 14 + 7 * t)) 0 (m ((c + 14 + 7 * t)) 0))) ((c + 14 + 7 * t)) 1))) ((c + 14 + 7 * t)) 2))) ((b + 14 + 7 * t)) 3 (((zm2 ((zm2 ((zm2 m ((b + 14 + 7 * t)) 0 (m ((c + 14 + 7 * t)) 0))) ((b + 14 + 7 * t)) 1 (((zm2 m ((b + 14 + 7 * t)) 0 (m ((c + 14 + 7 * t)) 0))) ((c + 14 + 7 * t)) 1))) ((b + 14 + 7 * t)) 2 (((zm2 ((zm2 m ((b + 14 + 7 * t)) 0 (m ((c + 14 + 7 * t)) 0))) ((b + 14 + 7 * t)) 1 (((zm2 m ((b + 14 + 7 * t)) 0 (m ((c + 14 + 7 * t)) 0))) ((c + 14 + 7 * t)) 1))) ((c + 14 + 7 * t)) 2))) ((c + 14 + 7 * t)) 3))) ((c + 15 + 7 * t)) ((b + 15 + 7 * t)) 0 0 4)) ((c + 14 + 7 * t)) 5))) ((c + 14 + 7 * t)) 6))) ((c + 14 + 7 * t)) 7))) ((c + 16 + 7 * t)) ((b + 16 + 7 * t)) 0 0 32)) ((c + 14 + 7 * t)) 9))
theorem xp_guessCopy {σ : Nat → Nat × (Nat → Int32)} {yy : (Nat → Nat → Int64) × Bool × Nat × Nat} {m : Nat → Nat → Int32} {b : Nat} {t : Nat} {c : Nat} {d : Nat} (hd : 1 ≤ d + 1) (hb : BB b) (he : BB c) (ht : t < 4) (hbc : b + 42 ≤ c ∨ c + 42 ≤ b) (hon : m (c + 14 + 7 * t) 0 = 0 ∨ m (c + 14 + 7 * t) 0 = 1) : zEv σ (d + 1) 1 0 [some (.ref (b + 14 + 7 * t)), some (.ref (c + 14 + 7 * t))] [] (zS1, m, yy) (.inl none) (zS1, ((x_guessCopy m b t c)), yy) := by
  refine zeP rfl rfl ?_
  refine zeP rfl rfl ?_
  refine zeGI rfl rfl (shG he (by omega)) rfl rfl ?_
  refine zePB rfl rfl (shG hb (by omega)) rfl hon ?_
  refine zeP rfl rfl ?_
  refine zeP rfl rfl ?_
  refine zeGI rfl rfl (shG he (by omega)) rfl rfl ?_
  refine zePI rfl rfl (shG hb (by omega)) rfl ?_
  refine zeP rfl rfl ?_
  refine zeP rfl rfl ?_
  refine zeGI rfl rfl (shG he (by omega)) rfl rfl ?_
  refine zePI rfl rfl (shG hb (by omega)) rfl ?_
  refine zeP rfl rfl ?_
  refine zeP rfl rfl ?_
  refine zeGI rfl rfl (shG he (by omega)) rfl rfl ?_
  refine zePI rfl rfl (shG hb (by omega)) rfl ?_
  refine zeP rfl rfl ?_
  refine zeGR rfl rfl (shG he (by omega)) rfl rfl ?_
  refine zeKn (c := 0) rfl rfl rfl ?_
  refine zeP rfl rfl ?_
  refine zeGR rfl rfl (shG hb (by omega)) rfl rfl ?_
  refine zeKn (c := 0) rfl rfl rfl ?_
  refine zeKn (c := 4) rfl rfl rfl ?_
  refine zeCPY rfl rfl (shO he (by omega)) (shO hb (by omega)) (by omega) (by omega) (by omega) (by omega) rfl ?_
  refine zeP rfl rfl ?_
  refine zeP rfl rfl ?_
  refine zeGI rfl rfl (shG he (by omega)) rfl rfl ?_
  refine zePI rfl rfl (shG hb (by omega)) rfl ?_
  refine zeP rfl rfl ?_
  refine zeP rfl rfl ?_
  refine zeGI rfl rfl (shG he (by omega)) rfl rfl ?_
  refine zePI rfl rfl (shG hb (by omega)) rfl ?_
  refine zeP rfl rfl ?_
  refine zeP rfl rfl ?_
  refine zeGI rfl rfl (shG he (by omega)) rfl rfl ?_
  refine zePI rfl rfl (shG hb (by omega)) rfl ?_
  refine zeP rfl rfl ?_
  refine zeGR rfl rfl (shG he (by omega)) rfl rfl ?_
  refine zeKn (c := 0) rfl rfl rfl ?_
  refine zeP rfl rfl ?_
  refine zeGR rfl rfl (shG hb (by omega)) rfl rfl ?_
  refine zeKn (c := 0) rfl rfl rfl ?_
  refine zeKn (c := 32) rfl rfl rfl ?_
  refine zeCPY rfl rfl (shV he (by omega)) (shV hb (by omega)) (by omega) (by omega) (by omega) (by omega) rfl ?_
  refine zeP rfl rfl ?_
  refine zeP rfl rfl ?_
  refine zeGI rfl rfl (shG he (by omega)) rfl rfl ?_
  refine zePI rfl rfl (shG hb (by omega)) rfl ?_
  exact zeRe rfl rfl rfl rfl (by rfl) (by rfl)
theorem xc_guessCopy {σ : Nat → Nat × (Nat → Int32)} {yy : (Nat → Nat → Int64) × Bool × Nat × Nat} {m : Nat → Nat → Int32} {b : Nat} {t : Nat} {c : Nat} (hb : BB b) (he : BB c) (ht : t < 4) (hbc : b + 42 ≤ c ∨ c + 42 ≤ b) (hon : m (c + 14 + 7 * t) 0 = 0 ∨ m (c + 14 + 7 * t) 0 = 1) : zF σ 1 1 [.ref (b + 14 + 7 * t), .ref (c + 14 + 7 * t)] (zS1, m, yy) (.inl none) (zS1, ((x_guessCopy m b t c)), yy) := by
  intro d hd
  obtain ⟨d, rfl⟩ : ∃ k, d = k + 1 := ⟨d - 1, by omega⟩
  exact xp_guessCopy hd hb he ht hbc hon
theorem zcpy_ne {m : Nat → Nat → Int32} {a0 a1 s p n i l : Nat} (h : i ≠ a1) : zcpy m a0 a1 s p n i l = m i l := by
  unfold zcpy
  rw [if_neg h]
theorem onK {m m' : Nat → Nat → Int32} {a k : Nat} (e : m' a k = m a k) (h : m a k = 0 ∨ m a k = 1) : m' a k = 0 ∨ m' a k = 1 := by
  rw [e]; exact h
noncomputable def x_strandCopy (m : Nat → Nat → Int32) (b : Nat) (t : Nat) (c : Nat) : (Nat → Nat → Int32) := (x_guessCopy ((zcpy ((zm2 ((zm2 ((zm2 ((zm2 ((zm2 ((zm2 ((zcpy ((zcpy m ((c + 11 + 7 * t)) ((b + 11 + 7 * t)) 0 0 24)) ((c + 12 + 7 * t)) ((b + 12 + 7 * t)) 0 0 24)) ((b + 10 + 7 * t)) 2 (((zcpy ((zcpy m ((c + 11 + 7 * t)) ((b + 11 + 7 * t)) 0 0 24)) ((c + 12 + 7 * t)) ((b + 12 + 7 * t)) 0 0 24)) ((c + 10 + 7 * t)) 2))) ((b + 10 + 7 * t)) 3 (((zm2 ((zcpy ((zcpy m ((c + 11 + 7 * t)) ((b + 11 + 7 * t)) 0 0 24)) ((c + 12 + 7 * t)) ((b + 12 + 7 * t)) 0 0 24)) ((b + 10 + 7 * t)) 2 (((zcpy ((zcpy m ((c + 11 + 7 * t)) ((b + 11 + 7 * t)) 0 0 24)) ((c + 12 + 7 * t)) ((b + 12 + 7 * t)) 0 0 24)) ((c + 10 + 7 * t)) 2))) ((c + 10 + 7 * t)) 3))) ((b + 10 + 7 * t)) 4 (((zm2 ((zm2 ((zcpy ((zcpy m ((c + 11 + 7 * t)) ((b + 11 + 7 * t)) 0 0 24)) ((c + 12 + 7 * t)) ((b + 12 + 7 * t)) 0 0 24)) ((b + 10 + 7 * t)) 2 (((zcpy ((zcpy m ((c + 11 + 7 * t)) ((b + 11 + 7 * t)) 0 0 24)) ((c + 12 + 7 * t)) ((b + 12 + 7 * t)) 0 0 24)) ((c + 10 + 7 * t)) 2))) ((b + 10 + 7 * t)) 3 (((zm2 ((zcpy ((zcpy m ((c + 11 + 7 * t)) ((b + 11 + 7 * t)) 0 0 24)) ((c + 12 + 7 * t)) ((b + 12 + 7 * t)) 0 0 24)) ((b + 10 + 7 * t)) 2 (((zcpy ((zcpy m ((c + 11 + 7 * t)) ((b + 11 + 7 * t)) 0 0 24)) ((c + 12 + 7 * t)) ((b + 12 + 7 * t)) 0 0 24)) ((c + 10 + 7 * t)) 2))) ((c + 10 + 7 * t)) 3))) ((c + 10 + 7 * t)) 4))) ((b + 10 + 7 * t)) 5 (((zm2 ((zm2 ((zm2 ((zcpy ((zcpy m ((c + 11 + 7 * t)) ((b + 11 + 7 * t)) 0 0 24)) ((c + 12 + 7 * t)) ((b + 12 + 7 * t)) 0 0 24)) ((b + 10 + 7 * t)) 2 (((zcpy ((zcpy m ((c + 11 + 7 * t)) ((b + 11 + 7 * t)) 0 0 24)) ((c + 12 + 7 * t)) ((b + 12 + 7 * t)) 0 0 24)) ((c + 10 + 7 * t)) 2))) ((b + 10 + 7 * t)) 3 (((zm2 ((zcpy ((zcpy m ((c + 11 + 7 * t)) ((b + 11 + 7 * t)) 0 0 24)) ((c + 12 + 7 * t)) ((b + 12 + 7 * t)) 0 0 24)) ((b + 10 + 7 * t)) 2 (((zcpy ((zcpy m ((c + 11 + 7 * t)) ((b + 11 + 7 * t)) 0 0 24)) ((c + 12 + 7 * t)) ((b + 12 + 7 * t)) 0 0 24)) ((c + 10 + 7 * t)) 2))) ((c + 10 + 7 * t)) 3))) ((b + 10 + 7 * t)) 4 (((zm2 ((zm2 ((zcpy ((zcpy m ((c + 11 + 7 * t)) ((b + 11 + 7 * t)) 0 0 24)) ((c + 12 + 7 * t)) ((b + 12 + 7 * t)) 0 0 24)) ((b + 10 + 7 * t)) 2 (((zcpy ((zcpy m ((c + 11 + 7 * t)) ((b + 11 + 7 * t)) 0 0 24)) ((c + 12 + 7 * t)) ((b + 12 + 7 * t)) 0 0 24)) ((c + 10 + 7 * t)) 2))) ((b + 10 + 7 * t)) 3 (((zm2 ((zcpy ((zcpy m ((c + 11 + 7 * t)) ((b + 11 + 7 * t)) 0 0 24)) ((c + 12 + 7 * t)) ((b + 12 + 7 * t)) 0 0 24)) ((b + 10 + 7 * t)) 2 (((zcpy ((zcpy m ((c + 11 + 7 * t)) ((b + 11 + 7 * t)) 0 0 24)) ((c + 12 + 7 * t)) ((b + 12 + 7 * t)) 0 0 24)) ((c + 10 + 7 * t)) 2))) ((c + 10 + 7 * t)) 3))) ((c + 10 + 7 * t)) 4))) ((c + 10 + 7 * t)) 5))) ((b + 10 + 7 * t)) 6 (((zm2 ((zm2 ((zm2 ((zm2 ((zcpy ((zcpy m ((c + 11 + 7 * t)) ((b + 11 + 7 * t)) 0 0 24)) ((c + 12 + 7 * t)) ((b + 12 + 7 * t)) 0 0 24)) ((b + 10 + 7 * t)) 2 (((zcpy ((zcpy m ((c + 11 + 7 * t)) ((b + 11 + 7 * t)) 0 0 24)) ((c + 12 + 7 * t)) ((b + 12 + 7 * t)) 0 0 24)) ((c + 10 + 7 * t)) 2))) ((b + 10 + 7 * t)) 3 (((zm2 ((zcpy ((zcpy m ((c + 11 + 7 * t)) ((b + 11 + 7 * t)) 0 0 24)) ((c + 12 + 7 * t)) ((b + 12 + 7 * t)) 0 0 24)) ((b + 10 + 7 * t)) 2 (((zcpy ((zcpy m ((c + 11 + 7 * t)) ((b + 11 + 7 * t)) 0 0 24)) ((c + 12 + 7 * t)) ((b + 12 + 7 * t)) 0 0 24)) ((c + 10 + 7 * t)) 2))) ((c + 10 + 7 * t)) 3))) ((b + 10 + 7 * t)) 4 (((zm2 ((zm2 ((zcpy ((zcpy m ((c + 11 + 7 * t)) ((b + 11 + 7 * t)) 0 0 24)) ((c + 12 + 7 * t)) ((b + 12 + 7 * t)) 0 0 24)) ((b + 10 + 7 * t)) 2 (((zcpy ((zcpy m ((c + 11 + 7 * t)) ((b + 11 + 7 * t)) 0 0 24)) ((c + 12 + 7 * t)) ((b + 12 + 7 * t)) 0 0 24)) ((c + 10 + 7 * t)) 2))) ((b + 10 + 7 * t)) 3 (((zm2 ((zcpy ((zcpy m ((c + 11 + 7 * t)) ((b + 11 + 7 * t)) 0 0 24)) ((c + 12 + 7 * t)) ((b + 12 + 7 * t)) 0 0 24)) ((b + 10 + 7 * t)) 2 (((zcpy ((zcpy m ((c + 11 + 7 * t)) ((b + 11 + 7 * t)) 0 0 24)) ((c + 12 + 7 * t)) ((b + 12 + 7 * t)) 0 0 24)) ((c + 10 + 7 * t)) 2))) ((c + 10 + 7 * t)) 3))) ((c + 10 + 7 * t)) 4))) ((b + 10 + 7 * t)) 5 (((zm2 ((zm2 ((zm2 ((zcpy ((zcpy m ((c + 11 + 7 * t)) ((b + 11 + 7 * t)) 0 0 24)) ((c + 12 + 7 * t)) ((b + 12 + 7 * t)) 0 0 24)) ((b + 10 + 7 * t)) 2 (((zcpy ((zcpy m ((c + 11 + 7 * t)) ((b + 11 + 7 * t)) 0 0 24)) ((c + 12 + 7 * t)) ((b + 12 + 7 * t)) 0 0 24)) ((c + 10 + 7 * t)) 2))) ((b + 10 + 7 * t)) 3 (((zm2 ((zcpy ((zcpy m ((c + 11 + 7 * t)) ((b + 11 + 7 * t)) 0 0 24)) ((c + 12 + 7 * t)) ((b + 12 + 7 * t)) 0 0 24)) ((b + 10 + 7 * t)) 2 (((zcpy ((zcpy m ((c + 11 + 7 * t)) ((b + 11 + 7 * t)) 0 0 24)) ((c + 12 + 7 * t)) ((b + 12 + 7 * t)) 0 0 24)) ((c + 10 + 7 * t)) 2))) ((c + 10 + 7 * t)) 3))) ((b + 10 + 7 * t)) 4 (((zm2 ((zm2 ((zcpy ((zcpy m ((c + 11 + 7 * t)) ((b + 11 + 7 * t)) 0 0 24)) ((c + 12 + 7 * t)) ((b + 12 + 7 * t)) 0 0 24)) ((b + 10 + 7 * t)) 2 (((zcpy ((zcpy m ((c + 11 + 7 * t)) ((b + 11 + 7 * t)) 0 0 24)) ((c + 12 + 7 * t)) ((b + 12 + 7 * t)) 0 0 24)) ((c + 10 + 7 * t)) 2))) ((b + 10 + 7 * t)) 3 (((zm2 ((zcpy ((zcpy m ((c + 11 + 7 * t)) ((b + 11 + 7 * t)) 0 0 24)) ((c + 12 + 7 * t)) ((b + 12 + 7 * t)) 0 0 24)) ((b + 10 + 7 * t)) 2 (((zcpy ((zcpy m ((c + 11 + 7 * t)) ((b + 11 + 7 * t)) 0 0 24)) ((c + 12 + 7 * t)) ((b + 12 + 7 * t)) 0 0 24)) ((c + 10 + 7 * t)) 2))) ((c + 10 + 7 * t)) 3))) ((c + 10 + 7 * t)) 4))) ((c + 10 + 7 * t)) 5))) ((c + 10 + 7 * t)) 6))) ((b + 10 + 7 * t)) 7 (((zm2 ((zm2 ((zm2 ((zm2 ((zm2 ((zcpy ((zcpy m ((c + 11 + 7 * t)) ((b + 11 + 7 * t)) 0 0 24)) ((c + 12 + 7 * t)) ((b + 12 + 7 * t)) 0 0 24)) ((b + 10 + 7 * t)) 2 (((zcpy ((zcpy m ((c + 11 + 7 * t)) ((b + 11 + 7 * t)) 0 0 24)) ((c + 12 + 7 * t)) ((b + 12 + 7 * t)) 0 0 24)) ((c + 10 + 7 * t)) 2))) ((b + 10 + 7 * t)) 3 (((zm2 ((zcpy ((zcpy m ((c + 11 + 7 * t)) ((b + 11 + 7 * t)) 0 0 24)) ((c + 12 + 7 * t)) ((b + 12 + 7 * t)) 0 0 24)) ((b + 10 + 7 * t)) 2 (((zcpy ((zcpy m ((c + 11 + 7 * t)) ((b + 11 + 7 * t)) 0 0 24)) ((c + 12 + 7 * t)) ((b + 12 + 7 * t)) 0 0 24)) ((c + 10 + 7 * t)) 2))) ((c + 10 + 7 * t)) 3))) ((b + 10 + 7 * t)) 4 (((zm2 ((zm2 ((zcpy ((zcpy m ((c + 11 + 7 * t)) ((b + 11 + 7 * t)) 0 0 24)) ((c + 12 + 7 * t)) ((b + 12 + 7 * t)) 0 0 24)) ((b + 10 + 7 * t)) 2 (((zcpy ((zcpy m ((c + 11 + 7 * t)) ((b + 11 + 7 * t)) 0 0 24)) ((c + 12 + 7 * t)) ((b + 12 + 7 * t)) 0 0 24)) ((c + 10 + 7 * t)) 2))) ((b + 10 + 7 * t)) 3 (((zm2 ((zcpy ((zcpy m ((c + 11 + 7 * t)) ((b + 11 + 7 * t)) 0 0 24)) ((c + 12 + 7 * t)) ((b + 12 + 7 * t)) 0 0 24)) ((b + 10 + 7 * t)) 2 (((zcpy ((zcpy m ((c + 11 + 7 * t)) ((b + 11 + 7 * t)) 0 0 24)) ((c + 12 + 7 * t)) ((b + 12 + 7 * t)) 0 0 24)) ((c + 10 + 7 * t)) 2))) ((c + 10 + 7 * t)) 3))) ((c + 10 + 7 * t)) 4))) ((b + 10 + 7 * t)) 5 (((zm2 ((zm2 ((zm2 ((zcpy ((zcpy m ((c + 11 + 7 * t)) ((b + 11 + 7 * t)) 0 0 24)) ((c + 12 + 7 * t)) ((b + 12 + 7 * t)) 0 0 24)) ((b + 10 + 7 * t)) 2 (((zcpy ((zcpy m ((c + 11 + 7 * t)) ((b + 11 + 7 * t)) 0 0 24)) ((c + 12 + 7 * t)) ((b + 12 + 7 * t)) 0 0 24)) ((c + 10 + 7 * t)) 2))) ((b + 10 + 7 * t)) 3 (((zm2 ((zcpy ((zcpy m ((c + 11 + 7 * t)) ((b + 11 + 7 * t)) 0 0 24)) ((c + 12 + 7 * t)) ((b + 12 + 7 * t)) 0 0 24)) ((b + 10 + 7 * t)) 2 (((zcpy ((zcpy m ((c + 11 + 7 * t)) ((b + 11 + 7 * t)) 0 0 24)) ((c + 12 + 7 * t)) ((b + 12 + 7 * t)) 0 0 24)) ((c + 10 + 7 * t)) 2))) ((c + 10 + 7 * t)) 3))) ((b + 10 + 7 * t)) 4 (((zm2 ((zm2 ((zcpy ((zcpy m ((c + 11 + 7 * t)) ((b + 11 + 7 * t)) 0 0 24)) ((c + 12 + 7 * t)) ((b + 12 + 7 * t)) 0 0 24)) ((b + 10 + 7 * t)) 2 (((zcpy ((zcpy m ((c + 11 + 7 * t)) ((b + 11 + 7 * t)) 0 0 24)) ((c + 12 + 7 * t)) ((b + 12 + 7 * t)) 0 0 24)) ((c + 10 + 7 * t)) 2))) ((b + 10 + 7 * t)) 3 (((zm2 ((zcpy ((zcpy m ((c + 11 + 7 * t)) ((b + 11 + 7 * t)) 0 0 24)) ((c + 12 + 7 * t)) ((b + 12 + 7 * t)) 0 0 24)) ((b + 10 + 7 * t)) 2 (((zcpy ((zcpy m ((c + 11 + 7 * t)) ((b + 11 + 7 * t)) 0 0 24)) ((c + 12 + 7 * t)) ((b + 12 + 7 * t)) 0 0 24)) ((c + 10 + 7 * t)) 2))) ((c + 10 + 7 * t)) 3))) ((c + 10 + 7 * t)) 4))) ((c + 10 + 7 * t)) 5))) ((b + 10 + 7 * t)) 6 (((zm2 ((zm2 ((zm2 ((zm2 ((zcpy ((zcpy m ((c + 11 + 7 * t)) ((b + 11 + 7 * t)) 0 0 24)) ((c + 12 + 7 * t)) ((b + 12 + 7 * t)) 0 0 24)) ((b + 10 + 7 * t)) 2 (((zcpy ((zcpy m ((c + 11 + 7 * t)) ((b + 11 + 7 * t)) 0 0 24)) ((c + 12 + 7 * t)) ((b + 12 + 7 * t)) 0 0 24)) ((c + 10 + 7 * t)) 2))) ((b + 10 + 7 * t)) 3 (((zm2 ((zcpy ((zcpy m ((c + 11 + 7 * t)) ((b + 11 + 7 * t)) 0 0 24)) ((c + 12 + 7 * t)) ((b + 12 + 7 * t)) 0 0 24)) ((b + 10 + 7 * t)) 2 (((zcpy ((zcpy m ((c + 11 + 7 * t)) ((b + 11 + 7 * t)) 0 0 24)) ((c + 12 + 7 * t)) ((b + 12 + 7 * t)) 0 0 24)) ((c + 10 + 7 * t)) 2))) ((c + 10 + 7 * t)) 3))) ((b + 10 + 7 * t)) 4 (((zm2 ((zm2 ((zcpy ((zcpy m ((c + 11 + 7 * t)) ((b + 11 + 7 * t)) 0 0 24)) ((c + 12 + 7 * t)) ((b + 12 + 7 * t)) 0 0 24)) ((b + 10 + 7 * t)) 2 (((zcpy ((zcpy m ((c + 11 + 7 * t)) ((b + 11 + 7 * t)) 0 0 24)) ((c + 12 + 7 * t)) ((b + 12 + 7 * t)) 0 0 24)) ((c + 10 + 7 * t)) 2))) ((b + 10 + 7 * t)) 3 (((zm2 ((zcpy ((zcpy m ((c + 11 + 7 * t)) ((b + 11 + 7 * t)) 0 0 24)) ((c + 12 + 7 * t)) ((b + 12 + 7 * t)) 0 0 24)) ((b + 10 + 7 * t)) 2 (((zcpy ((zcpy m ((c + 11 + 7 * t)) ((b + 11 + 7 * t)) 0 0 24)) ((c + 12 + 7 * t)) ((b + 12 + 7 * t)) 0 0 24)) ((c + 10 + 7 * t)) 2))) ((c + 10 + 7 * t)) 3))) ((c + 10 + 7 * t)) 4))) ((b + 10 + 7 * t)) 5 (((zm2 ((zm2 ((zm2 ((zcpy ((zcpy m ((c + 11 + 7 * t)) ((b + 11 + 7 * t)) 0 0 24)) ((c + 12 + 7 * t)) ((b + 12 + 7 * t)) 0 0 24)) ((b + 10 + 7 * t)) 2 (((zcpy ((zcpy m ((c + 11 + 7 * t)) ((b + 11 + 7 * t)) 0 0 24)) ((c + 12 + 7 * t)) ((b + 12 + 7 * t)) 0 0 24)) ((c + 10 + 7 * t)) 2))) ((b + 10 + 7 * t)) 3 (((zm2 ((zcpy ((zcpy m ((c + 11 + 7 * t)) ((b + 11 + 7 * t)) 0 0 24)) ((c + 12 + 7 * t)) ((b + 12 + 7 * t)) 0 0 24)) ((b + 10 + 7 * t)) 2 (((zcpy ((zcpy m ((c + 11 + 7 * t)) ((b + 11 + 7 * t)) 0 0 24)) ((c + 12 + 7 * t)) ((b + 12 + 7 * t)) 0 0 24)) ((c + 10 + 7 * t)) 2))) ((c + 10 + 7 * t)) 3))) ((b + 10 + 7 * t)) 4 (((zm2 ((zm2 ((zcpy ((zcpy m ((c + 11 + 7 * t)) ((b + 11 + 7 * t)) 0 0 24)) ((c + 12 + 7 * t)) ((b + 12 + 7 * t)) 0 0 24)) ((b + 10 + 7 * t)) 2 (((zcpy ((zcpy m ((c + 11 + 7 * t)) ((b + 11 + 7 * t)) 0 0 24)) ((c + 12 + 7 * t)) ((b + 12 + 7 * t)) 0 0 24)) ((c + 10 + 7 * t)) 2))) ((b + 10 + 7 * t)) 3 (((zm2 ((zcpy ((zcpy m ((c + 11 + 7 * t)) ((b + 11 + 7 * t)) 0 0 24)) ((c + 12 + 7 * t)) ((b + 12 + 7 * t)) 0 0 24)) ((b + 10 + 7 * t)) 2 (((zcpy ((zcpy m ((c + 11 + 7 * t)) ((b + 11 + 7 * t)) 0 0 24)) ((c + 12 + 7 * t)) ((b + 12 + 7 * t)) 0 0 24)) ((c + 10 + 7 * t)) 2))) ((c + 10 + 7 * t)) 3))) ((c + 10 + 7 * t)) 4))) ((c + 10 + 7 * t)) 5))) ((c + 10 + 7 * t)) 6))) ((c + 10 + 7 * t)) 7))) ((c + 13 + 7 * t)) ((b + 13 + 7 * t)) 0 0 5)) b t c)
theorem xp_strandCopy {σ : Nat → Nat × (Nat → Int32)} {yy : (Nat → Nat → Int64) × Bool × Nat × Nat} {m : Nat → Nat → Int32} {b : Nat} {t : Nat} {c : Nat} {d : Nat} (hd : 2 ≤ d + 1) (hb : BB b) (he : BB c) (ht : t < 4) (hbc : b + 42 ≤ c ∨ c + 42 ≤ b) (hon : m (c + 14 + 7 * t) 0 = 0 ∨ m (c + 14 + 7 * t) 0 = 1) : zEv σ (d + 1) 1201 0 [some (.ref (b + 10 + 7 * t)), some (.ref (c + 10 + 7 * t))] [] (zS1, m, yy) (.inl none) (zS1, ((x_strandCopy m b t c)), yy) := by
  refine zeP rfl rfl ?_
  refine zeGR rfl rfl (shS he (by omega)) rfl rfl ?_
  refine zeKn (c := 0) rfl rfl rfl ?_
  refine zeP rfl rfl ?_
  refine zeGR rfl rfl (shS hb (by omega)) rfl rfl ?_
  refine zeKn (c := 0) rfl rfl rfl ?_
  refine zeKn (c := 24) rfl rfl rfl ?_
  refine zeCPY rfl rfl (shK he (by omega)) (shK hb (by omega)) (by omega) (by omega) (by omega) (by omega) rfl ?_
  refine zeP rfl rfl ?_
  refine zeGR rfl rfl (shS he (by omega)) rfl rfl ?_
  refine zeKn (c := 0) rfl rfl rfl ?_
  refine zeP rfl rfl ?_
  refine zeGR rfl rfl (shS hb (by omega)) rfl rfl ?_
  refine zeKn (c := 0) rfl rfl rfl ?_
  refine zeKn (c := 24) rfl rfl rfl ?_
  refine zeCPY rfl rfl (shN he (by omega)) (shN hb (by omega)) (by omega) (by omega) (by omega) (by omega) rfl ?_
  refine zeP rfl rfl ?_
  refine zeP rfl rfl ?_
  refine zeGI rfl rfl (shS he (by omega)) rfl rfl ?_
  refine zePI rfl rfl (shS hb (by omega)) rfl ?_
  refine zeP rfl rfl ?_
  refine zeP rfl rfl ?_
  refine zeGI rfl rfl (shS he (by omega)) rfl rfl ?_
  refine zePI rfl rfl (shS hb (by omega)) rfl ?_
  refine zeP rfl rfl ?_
  refine zeP rfl rfl ?_
  refine zeGI rfl rfl (shS he (by omega)) rfl rfl ?_
  refine zePI rfl rfl (shS hb (by omega)) rfl ?_
  refine zeP rfl rfl ?_
  refine zeP rfl rfl ?_
  refine zeGI rfl rfl (shS he (by omega)) rfl rfl ?_
  refine zePI rfl rfl (shS hb (by omega)) rfl ?_
  refine zeP rfl rfl ?_
  refine zeP rfl rfl ?_
  refine zeGI rfl rfl (shS he (by omega)) rfl rfl ?_
  refine zePI rfl rfl (shS hb (by omega)) rfl ?_
  refine zeP rfl rfl ?_
  refine zeP rfl rfl ?_
  refine zeGI rfl rfl (shS he (by omega)) rfl rfl ?_
  refine zePI rfl rfl (shS hb (by omega)) rfl ?_
  refine zeP rfl rfl ?_
  refine zeGR rfl rfl (shS he (by omega)) rfl rfl ?_
  refine zeKn (c := 0) rfl rfl rfl ?_
  refine zeP rfl rfl ?_
  refine zeGR rfl rfl (shS hb (by omega)) rfl rfl ?_
  refine zeKn (c := 0) rfl rfl rfl ?_
  refine zeKn (c := 5) rfl rfl rfl ?_
  refine zeCPY rfl rfl (shF he (by omega)) (shF hb (by omega)) (by omega) (by omega) (by omega) (by omega) rfl ?_
  refine zeP rfl rfl ?_
  refine zeGR rfl rfl (shS hb (by omega)) rfl rfl ?_
  refine zeP rfl rfl ?_
  refine zeGR rfl rfl (shS he (by omega)) rfl rfl ?_
  refine zeCV rfl rfl rfl rfl (shG hb (by omega)) rfl (xc_guessCopy (m := (zcpy ((zm2 ((zm2 ((zm2 ((zm2 ((zm2 ((zm2 ((zcpy ((zcpy m ((c + 11 + 7 * t)) ((b + 11 + 7 * t)) 0 0 24)) ((c + 12 + 7 * t)) ((b + 12 + 7 * t)) 0 0 24)) ((b + 10 + 7 * t)) 2 (((zcpy ((zcpy m ((c + 11 + 7 * t)) ((b + 11 + 7 * t)) 0 0 24)) ((c + 12 + 7 * t)) ((b + 12 + 7 * t)) 0 0 24)) ((c + 10 + 7 * t)) 2))) ((b + 10 + 7 * t)) 3 (((zm2 ((zcpy ((zcpy m ((c + 11 + 7 * t)) ((b + 11 + 7 * t)) 0 0 24)) ((c + 12 + 7 * t)) ((b + 12 + 7 * t)) 0 0 24)) ((b + 10 + 7 * t)) 2 (((zcpy ((zcpy m ((c + 11 + 7 * t)) ((b + 11 + 7 * t)) 0 0 24)) ((c + 12 + 7 * t)) ((b + 12 + 7 * t)) 0 0 24)) ((c + 10 + 7 * t)) 2))) ((c + 10 + 7 * t)) 3))) ((b + 10 + 7 * t)) 4 (((zm2 ((zm2 ((zcpy ((zcpy m ((c + 11 + 7 * t)) ((b + 11 + 7 * t)) 0 0 24)) ((c + 12 + 7 * t)) ((b + 12 + 7 * t)) 0 0 24)) ((b + 10 + 7 * t)) 2 (((zcpy ((zcpy m ((c + 11 + 7 * t)) ((b + 11 + 7 * t)) 0 0 24)) ((c + 12 + 7 * t)) ((b + 12 + 7 * t)) 0 0 24)) ((c + 10 + 7 * t)) 2))) ((b + 10 + 7 * t)) 3 (((zm2 ((zcpy ((zcpy m ((c + 11 + 7 * t)) ((b + 11 + 7 * t)) 0 0 24)) ((c + 12 + 7 * t)) ((b + 12 + 7 * t)) 0 0 24)) ((b + 10 + 7 * t)) 2 (((zcpy ((zcpy m ((c + 11 + 7 * t)) ((b + 11 + 7 * t)) 0 0 24)) ((c + 12 + 7 * t)) ((b + 12 + 7 * t)) 0 0 24)) ((c + 10 + 7 * t)) 2))) ((c + 10 + 7 * t)) 3))) ((c + 10 + 7 * t)) 4))) ((b + 10 + 7 * t)) 5 (((zm2 ((zm2 ((zm2 ((zcpy ((zcpy m ((c + 11 + 7 * t)) ((b + 11 + 7 * t)) 0 0 24)) ((c + 12 + 7 * t)) ((b + 12 + 7 * t)) 0 0 24)) ((b + 10 + 7 * t)) 2 (((zcpy ((zcpy m ((c + 11 + 7 * t)) ((b + 11 + 7 * t)) 0 0 24)) ((c + 12 + 7 * t)) ((b + 12 + 7 * t)) 0 0 24)) ((c + 10 + 7 * t)) 2))) ((b + 10 + 7 * t)) 3 (((zm2 ((zcpy ((zcpy m ((c + 11 + 7 * t)) ((b + 11 + 7 * t)) 0 0 24)) ((c + 12 + 7 * t)) ((b + 12 + 7 * t)) 0 0 24)) ((b + 10 + 7 * t)) 2 (((zcpy ((zcpy m ((c + 11 + 7 * t)) ((b + 11 + 7 * t)) 0 0 24)) ((c + 12 + 7 * t)) ((b + 12 + 7 * t)) 0 0 24)) ((c + 10 + 7 * t)) 2))) ((c + 10 + 7 * t)) 3))) ((b + 10 + 7 * t)) 4 (((zm2 ((zm2 ((zcpy ((zcpy m ((c + 11 + 7 * t)) ((b + 11 + 7 * t)) 0 0 24)) ((c + 12 + 7 * t)) ((b + 12 + 7 * t)) 0 0 24)) ((b + 10 + 7 * t)) 2 (((zcpy ((zcpy m ((c + 11 + 7 * t)) ((b + 11 + 7 * t)) 0 0 24)) ((c + 12 + 7 * t)) ((b + 12 + 7 * t)) 0 0 24)) ((c + 10 + 7 * t)) 2))) ((b + 10 + 7 * t)) 3 (((zm2 ((zcpy ((zcpy m ((c + 11 + 7 * t)) ((b + 11 + 7 * t)) 0 0 24)) ((c + 12 + 7 * t)) ((b + 12 + 7 * t)) 0 0 24)) ((b + 10 + 7 * t)) 2 (((zcpy ((zcpy m ((c + 11 + 7 * t)) ((b + 11 + 7 * t)) 0 0 24)) ((c + 12 + 7 * t)) ((b + 12 + 7 * t)) 0 0 24)) ((c + 10 + 7 * t)) 2))) ((c + 10 + 7 * t)) 3))) ((c + 10 + 7 * t)) 4))) ((c + 10 + 7 * t)) 5))) ((b + 10 + 7 * t)) 6 (((zm2 ((zm2 ((zm2 ((zm2 ((zcpy ((zcpy m ((c + 11 + 7 * t)) ((b + 11 + 7 * t)) 0 0 24)) ((c + 12 + 7 * t)) ((b + 12 + 7 * t)) 0 0 24)) ((b + 10 + 7 * t)) 2 (((zcpy ((zcpy m ((c + 11 + 7 * t)) ((b + 11 + 7 * t)) 0 0 24)) ((c + 12 + 7 * t)) ((b + 12 + 7 * t)) 0 0 24)) ((c + 10 + 7 * t)) 2))) ((b + 10 + 7 * t)) 3 (((zm2 ((zcpy ((zcpy m ((c + 11 + 7 * t)) ((b + 11 + 7 * t)) 0 0 24)) ((c + 12 + 7 * t)) ((b + 12 + 7 * t)) 0 0 24)) ((b + 10 + 7 * t)) 2 (((zcpy ((zcpy m ((c + 11 + 7 * t)) ((b + 11 + 7 * t)) 0 0 24)) ((c + 12 + 7 * t)) ((b + 12 + 7 * t)) 0 0 24)) ((c + 10 + 7 * t)) 2))) ((c + 10 + 7 * t)) 3))) ((b + 10 + 7 * t)) 4 (((zm2 ((zm2 ((zcpy ((zcpy m ((c + 11 + 7 * t)) ((b + 11 + 7 * t)) 0 0 24)) ((c + 12 + 7 * t)) ((b + 12 + 7 * t)) 0 0 24)) ((b + 10 + 7 * t)) 2 (((zcpy ((zcpy m ((c + 11 + 7 * t)) ((b + 11 + 7 * t)) 0 0 24)) ((c + 12 + 7 * t)) ((b + 12 + 7 * t)) 0 0 24)) ((c + 10 + 7 * t)) 2))) ((b + 10 + 7 * t)) 3 (((zm2 ((zcpy ((zcpy m ((c + 11 + 7 * t)) ((b + 11 + 7 * t)) 0 0 24)) ((c + 12 + 7 * t)) ((b + 12 + 7 * t)) 0 0 24)) ((b + 10 + 7 * t)) 2 (((zcpy ((zcpy m ((c + 11 + 7 * t)) ((b + 11 + 7 * t)) 0 0 24)) ((c + 12 + 7 * t)) ((b + 12 + 7 * t)) 0 0 24)) ((c + 10 + 7 * t)) 2))) ((c + 10 + 7 * t)) 3))) ((c + 10 + 7 * t)) 4))) ((b + 10 + 7 * t)) 5 (((zm2 ((zm2 ((zm2 ((zcpy ((zcpy m ((c + 11 + 7 * t)) ((b + 11 + 7 * t)) 0 0 24)) ((c + 12 + 7 * t)) ((b + 12 + 7 * t)) 0 0 24)) ((b + 10 + 7 * t)) 2 (((zcpy ((zcpy m ((c + 11 + 7 * t)) ((b + 11 + 7 * t)) 0 0 24)) ((c + 12 + 7 * t)) ((b + 12 + 7 * t)) 0 0 24)) ((c + 10 + 7 * t)) 2))) ((b + 10 + 7 * t)) 3 (((zm2 ((zcpy ((zcpy m ((c + 11 + 7 * t)) ((b + 11 + 7 * t)) 0 0 24)) ((c + 12 + 7 * t)) ((b + 12 + 7 * t)) 0 0 24)) ((b + 10 + 7 * t)) 2 (((zcpy ((zcpy m ((c + 11 + 7 * t)) ((b + 11 + 7 * t)) 0 0 24)) ((c + 12 + 7 * t)) ((b + 12 + 7 * t)) 0 0 24)) ((c + 10 + 7 * t)) 2))) ((c + 10 + 7 * t)) 3))) ((b + 10 + 7 * t)) 4 (((zm2 ((zm2 ((zcpy ((zcpy m ((c + 11 + 7 * t)) ((b + 11 + 7 * t)) 0 0 24)) ((c + 12 + 7 * t)) ((b + 12 + 7 * t)) 0 0 24)) ((b + 10 + 7 * t)) 2 (((zcpy ((zcpy m ((c + 11 + 7 * t)) ((b + 11 + 7 * t)) 0 0 24)) ((c + 12 + 7 * t)) ((b + 12 + 7 * t)) 0 0 24)) ((c + 10 + 7 * t)) 2))) ((b + 10 + 7 * t)) 3 (((zm2 ((zcpy ((zcpy m ((c + 11 + 7 * t)) ((b + 11 + 7 * t)) 0 0 24)) ((c + 12 + 7 * t)) ((b + 12 + 7 * t)) 0 0 24)) ((b + 10 + 7 * t)) 2 (((zcpy ((zcpy m ((c + 11 + 7 * t)) ((b + 11 + 7 * t)) 0 0 24)) ((c + 12 + 7 * t)) ((b + 12 + 7 * t)) 0 0 24)) ((c + 10 + 7 * t)) 2))) ((c + 10 + 7 * t)) 3))) ((c + 10 + 7 * t)) 4))) ((c + 10 + 7 * t)) 5))) ((c + 10 + 7 * t)) 6))) ((b + 10 + 7 * t)) 7 (((zm2 ((zm2 ((zm2 ((zm2 ((zm2 ((zcpy ((zcpy m ((c + 11 + 7 * t)) ((b + 11 + 7 * t)) 0 0 24)) ((c + 12 + 7 * t)) ((b + 12 + 7 * t)) 0 0 24)) ((b + 10 + 7 * t)) 2 (((zcpy ((zcpy m ((c + 11 + 7 * t)) ((b + 11 + 7 * t)) 0 0 24)) ((c + 12 + 7 * t)) ((b + 12 + 7 * t)) 0 0 24)) ((c + 10 + 7 * t)) 2))) ((b + 10 + 7 * t)) 3 (((zm2 ((zcpy ((zcpy m ((c + 11 + 7 * t)) ((b + 11 + 7 * t)) 0 0 24)) ((c + 12 + 7 * t)) ((b + 12 + 7 * t)) 0 0 24)) ((b + 10 + 7 * t)) 2 (((zcpy ((zcpy m ((c + 11 + 7 * t)) ((b + 11 + 7 * t)) 0 0 24)) ((c + 12 + 7 * t)) ((b + 12 + 7 * t)) 0 0 24)) ((c + 10 + 7 * t)) 2))) ((c + 10 + 7 * t)) 3))) ((b + 10 + 7 * t)) 4 (((zm2 ((zm2 ((zcpy ((zcpy m ((c + 11 + 7 * t)) ((b + 11 + 7 * t)) 0 0 24)) ((c + 12 + 7 * t)) ((b + 12 + 7 * t)) 0 0 24)) ((b + 10 + 7 * t)) 2 (((zcpy ((zcpy m ((c + 11 + 7 * t)) ((b + 11 + 7 * t)) 0 0 24)) ((c + 12 + 7 * t)) ((b + 12 + 7 * t)) 0 0 24)) ((c + 10 + 7 * t)) 2))) ((b + 10 + 7 * t)) 3 (((zm2 ((zcpy ((zcpy m ((c + 11 + 7 * t)) ((b + 11 + 7 * t)) 0 0 24)) ((c + 12 + 7 * t)) ((b + 12 + 7 * t)) 0 0 24)) ((b + 10 + 7 * t)) 2 (((zcpy ((zcpy m ((c + 11 + 7 * t)) ((b + 11 + 7 * t)) 0 0 24)) ((c + 12 + 7 * t)) ((b + 12 + 7 * t)) 0 0 24)) ((c + 10 + 7 * t)) 2))) ((c + 10 + 7 * t)) 3))) ((c + 10 + 7 * t)) 4))) ((b + 10 + 7 * t)) 5 (((zm2 ((zm2 ((zm2 ((zcpy ((zcpy m ((c + 11 + 7 * t)) ((b + 11 + 7 * t)) 0 0 24)) ((c + 12 + 7 * t)) ((b + 12 + 7 * t)) 0 0 24)) ((b + 10 + 7 * t)) 2 (((zcpy ((zcpy m ((c + 11 + 7 * t)) ((b + 11 + 7 * t)) 0 0 24)) ((c + 12 + 7 * t)) ((b + 12 + 7 * t)) 0 0 24)) ((c + 10 + 7 * t)) 2))) ((b + 10 + 7 * t)) 3 (((zm2 ((zcpy ((zcpy m ((c + 11 + 7 * t)) ((b + 11 + 7 * t)) 0 0 24)) ((c + 12 + 7 * t)) ((b + 12 + 7 * t)) 0 0 24)) ((b + 10 + 7 * t)) 2 (((zcpy ((zcpy m ((c + 11 + 7 * t)) ((b + 11 + 7 * t)) 0 0 24)) ((c + 12 + 7 * t)) ((b + 12 + 7 * t)) 0 0 24)) ((c + 10 + 7 * t)) 2))) ((c + 10 + 7 * t)) 3))) ((b + 10 + 7 * t)) 4 (((zm2 ((zm2 ((zcpy ((zcpy m ((c + 11 + 7 * t)) ((b + 11 + 7 * t)) 0 0 24)) ((c + 12 + 7 * t)) ((b + 12 + 7 * t)) 0 0 24)) ((b + 10 + 7 * t)) 2 (((zcpy ((zcpy m ((c + 11 + 7 * t)) ((b + 11 + 7 * t)) 0 0 24)) ((c + 12 + 7 * t)) ((b + 12 + 7 * t)) 0 0 24)) ((c + 10 + 7 * t)) 2))) ((b + 10 + 7 * t)) 3 (((zm2 ((zcpy ((zcpy m ((c + 11 + 7 * t)) ((b + 11 + 7 * t)) 0 0 24)) ((c + 12 + 7 * t)) ((b + 12 + 7 * t)) 0 0 24)) ((b + 10 + 7 * t)) 2 (((zcpy ((zcpy m ((c + 11 + 7 * t)) ((b + 11 + 7 * t)) 0 0 24)) ((c + 12 + 7 * t)) ((b + 12 + 7 * t)) 0 0 24)) ((c + 10 + 7 * t)) 2))) ((c + 10 + 7 * t)) 3))) ((c + 10 + 7 * t)) 4))) ((c + 10 + 7 * t)) 5))) ((b + 10 + 7 * t)) 6 (((zm2 ((zm2 ((zm2 ((zm2 ((zcpy ((zcpy m ((c + 11 + 7 * t)) ((b + 11 + 7 * t)) 0 0 24)) ((c + 12 + 7 * t)) ((b + 12 + 7 * t)) 0 0 24)) ((b + 10 + 7 * t)) 2 (((zcpy ((zcpy m ((c + 11 + 7 * t)) ((b + 11 + 7 * t)) 0 0 24)) ((c + 12 + 7 * t)) ((b + 12 + 7 * t)) 0 0 24)) ((c + 10 + 7 * t)) 2))) ((b + 10 + 7 * t)) 3 (((zm2 ((zcpy ((zcpy m ((c + 11 + 7 * t)) ((b + 11 + 7 * t)) 0 0 24)) ((c + 12 + 7 * t)) ((b + 12 + 7 * t)) 0 0 24)) ((b + 10 + 7 * t)) 2 (((zcpy ((zcpy m ((c + 11 + 7 * t)) ((b + 11 + 7 * t)) 0 0 24)) ((c + 12 + 7 * t)) ((b + 12 + 7 * t)) 0 0 24)) ((c + 10 + 7 * t)) 2))) ((c + 10 + 7 * t)) 3))) ((b + 10 + 7 * t)) 4 (((zm2 ((zm2 ((zcpy ((zcpy m ((c + 11 + 7 * t)) ((b + 11 + 7 * t)) 0 0 24)) ((c + 12 + 7 * t)) ((b + 12 + 7 * t)) 0 0 24)) ((b + 10 + 7 * t)) 2 (((zcpy ((zcpy m ((c + 11 + 7 * t)) ((b + 11 + 7 * t)) 0 0 24)) ((c + 12 + 7 * t)) ((b + 12 + 7 * t)) 0 0 24)) ((c + 10 + 7 * t)) 2))) ((b + 10 + 7 * t)) 3 (((zm2 ((zcpy ((zcpy m ((c + 11 + 7 * t)) ((b + 11 + 7 * t)) 0 0 24)) ((c + 12 + 7 * t)) ((b + 12 + 7 * t)) 0 0 24)) ((b + 10 + 7 * t)) 2 (((zcpy ((zcpy m ((c + 11 + 7 * t)) ((b + 11 + 7 * t)) 0 0 24)) ((c + 12 + 7 * t)) ((b + 12 + 7 * t)) 0 0 24)) ((c + 10 + 7 * t)) 2))) ((c + 10 + 7 * t)) 3))) ((c + 10 + 7 * t)) 4))) ((b + 10 + 7 * t)) 5 (((zm2 ((zm2 ((zm2 ((zcpy ((zcpy m ((c + 11 + 7 * t)) ((b + 11 + 7 * t)) 0 0 24)) ((c + 12 + 7 * t)) ((b + 12 + 7 * t)) 0 0 24)) ((b + 10 + 7 * t)) 2 (((zcpy ((zcpy m ((c + 11 + 7 * t)) ((b + 11 + 7 * t)) 0 0 24)) ((c + 12 + 7 * t)) ((b + 12 + 7 * t)) 0 0 24)) ((c + 10 + 7 * t)) 2))) ((b + 10 + 7 * t)) 3 (((zm2 ((zcpy ((zcpy m ((c + 11 + 7 * t)) ((b + 11 + 7 * t)) 0 0 24)) ((c + 12 + 7 * t)) ((b + 12 + 7 * t)) 0 0 24)) ((b + 10 + 7 * t)) 2 (((zcpy ((zcpy m ((c + 11 + 7 * t)) ((b + 11 + 7 * t)) 0 0 24)) ((c + 12 + 7 * t)) ((b + 12 + 7 * t)) 0 0 24)) ((c + 10 + 7 * t)) 2))) ((c + 10 + 7 * t)) 3))) ((b + 10 + 7 * t)) 4 (((zm2 ((zm2 ((zcpy ((zcpy m ((c + 11 + 7 * t)) ((b + 11 + 7 * t)) 0 0 24)) ((c + 12 + 7 * t)) ((b + 12 + 7 * t)) 0 0 24)) ((b + 10 + 7 * t)) 2 (((zcpy ((zcpy m ((c + 11 + 7 * t)) ((b + 11 + 7 * t)) 0 0 24)) ((c + 12 + 7 * t)) ((b + 12 + 7 * t)) 0 0 24)) ((c + 10 + 7 * t)) 2))) ((b + 10 + 7 * t)) 3 (((zm2 ((zcpy ((zcpy m ((c + 11 + 7 * t)) ((b + 11 + 7 * t)) 0 0 24)) ((c + 12 + 7 * t)) ((b + 12 + 7 * t)) 0 0 24)) ((b + 10 + 7 * t)) 2 (((zcpy ((zcpy m ((c + 11 + 7 * t)) ((b + 11 + 7 * t)) 0 0 24)) ((c + 12 + 7 * t)) ((b + 12 + 7 * t)) 0 0 24)) ((c + 10 + 7 * t)) 2))) ((c + 10 + 7 * t)) 3))) ((c + 10 + 7 * t)) 4))) ((c + 10 + 7 * t)) 5))) ((c + 10 + 7 * t)) 6))) ((c + 10 + 7 * t)) 7))) ((c + 13 + 7 * t)) ((b + 13 + 7 * t)) 0 0 5)) (b := b) (t := t) (c := c) hb he ht hbc (onK (by simp (disch := omega) only [zcpy_ne, zx_ne]) hon)) (by omega) ?_
  dsimp only [Option.toList, List.cons_append, List.nil_append]
  exact zeRe rfl rfl rfl rfl (by rfl) (by rfl)
theorem xc_strandCopy {σ : Nat → Nat × (Nat → Int32)} {yy : (Nat → Nat → Int64) × Bool × Nat × Nat} {m : Nat → Nat → Int32} {b : Nat} {t : Nat} {c : Nat} (hb : BB b) (he : BB c) (ht : t < 4) (hbc : b + 42 ≤ c ∨ c + 42 ≤ b) (hon : m (c + 14 + 7 * t) 0 = 0 ∨ m (c + 14 + 7 * t) 0 = 1) : zF σ 2 1201 [.ref (b + 10 + 7 * t), .ref (c + 10 + 7 * t)] (zS1, m, yy) (.inl none) (zS1, ((x_strandCopy m b t c)), yy) := by
  intro d hd
  obtain ⟨d, rfl⟩ : ∃ k, d = k + 1 := ⟨d - 1, by omega⟩
  exact xp_strandCopy hd hb he ht hbc hon
noncomputable def x_logCopy (m : Nat → Nat → Int32) (b : Nat) (c : Nat) : (Nat → Nat → Int32) := (zm2 ((zm2 ((zcpy m ((c + 41)) ((b + 41)) 0 0 240)) ((b + 40)) 1 (((zcpy m ((c + 41)) ((b + 41)) 0 0 240)) ((c + 40)) 1))) ((b + 40)) 2 (((zm2 ((zcpy m ((c + 41)) ((b + 41)) 0 0 240)) ((b + 40)) 1 (((zcpy m ((c + 41)) ((b + 41)) 0 0 240)) ((c + 40)) 1))) ((c + 40)) 2))
theorem xp_logCopy {σ : Nat → Nat × (Nat → Int32)} {yy : (Nat → Nat → Int64) × Bool × Nat × Nat} {m : Nat → Nat → Int32} {b : Nat} {c : Nat} {d : Nat} (hd : 1 ≤ d + 1) (hb : BB b) (he : BB c) : zEv σ (d + 1) 401 0 [some (.ref (b + 40)), some (.ref (c + 40))] [] (zS1, m, yy) (.inl none) (zS1, ((x_logCopy m b c)), yy) := by
  refine zeP rfl rfl ?_
  refine zeGR rfl rfl (shLG he) rfl rfl ?_
  refine zeKn (c := 0) rfl rfl rfl ?_
  refine zeP rfl rfl ?_
  refine zeGR rfl rfl (shLG hb) rfl rfl ?_
  refine zeKn (c := 0) rfl rfl rfl ?_
  refine zeKn (c := 240) rfl rfl rfl ?_
  refine zeCPY rfl rfl (shC he) (shC hb) (by omega) (by omega) (by omega) (by omega) rfl ?_
  refine zeP rfl rfl ?_
  refine zeP rfl rfl ?_
  refine zeGI rfl rfl (shLG he) rfl rfl ?_
  refine zePI rfl rfl (shLG hb) rfl ?_
  refine zeP rfl rfl ?_
  refine zeP rfl rfl ?_
  refine zeGI rfl rfl (shLG he) rfl rfl ?_
  refine zePI rfl rfl (shLG hb) rfl ?_
  exact zeRe rfl rfl rfl rfl (by rfl) (by rfl)
theorem xc_logCopy {σ : Nat → Nat × (Nat → Int32)} {yy : (Nat → Nat → Int64) × Bool × Nat × Nat} {m : Nat → Nat → Int32} {b : Nat} {c : Nat} (hb : BB b) (he : BB c) : zF σ 1 401 [.ref (b + 40), .ref (c + 40)] (zS1, m, yy) (.inl none) (zS1, ((x_logCopy m b c)), yy) := by
  intro d hd
  obtain ⟨d, rfl⟩ : ∃ k, d = k + 1 := ⟨d - 1, by omega⟩
  exact xp_logCopy hd hb he
end
section
/-! rules for the reading of a text: bytes, texts, the reference's point and begin -/
noncomputable def TP (m : Nat → Nat → Int32) (p b : Nat) : Nat → Nat → Int32 := fun i => if i = 137 then (fun k => if k = 8 then Int32.ofNat p else if k = 10 then Int32.ofNat b else m 137 k) else m i
noncomputable def pe (m : Nat → Nat → Int32) : Nat := (m 137 9).toNatClampNeg
noncomputable def PG (m : Nat → Nat → Int32) : Prop := m 137 9 = Int32.ofNat (pe m) ∧ pe m ≤ 400
theorem TP_p (m : Nat → Nat → Int32) (p b q : Nat) : zm2 (TP m p b) 137 8 (Int32.ofNat q) = TP m q b := by
  funext i k
  unfold zm2 TP upd
  by_cases h : i = 137
  · subst h
    by_cases h8 : k = 8
    · simp [h8]
    · simp [h8]
  · simp [h]
theorem TP_b (m : Nat → Nat → Int32) (p b q : Nat) : zm2 (TP m p b) 137 10 (Int32.ofNat q) = TP m p q := by
  funext i k
  unfold zm2 TP upd
  by_cases h : i = 137
  · subst h
    by_cases h8 : k = 10
    · simp [h8]
    · simp [h8]
  · simp [h]
theorem TP_self {m : Nat → Nat → Int32} {p b : Nat} (hp : m 137 8 = Int32.ofNat p) (hb : m 137 10 = Int32.ofNat b) : TP m p b = m := by
  funext i k
  unfold TP
  by_cases h : i = 137
  · subst h
    by_cases h8 : k = 8
    · subst h8; simp [hp]
    · by_cases h10 : k = 10
      · subst h10; simp [hb]
      · simp [h8, h10]
  · simp [h]
theorem zS141 : zS1[141]? = some (11, 400, []) := rfl
noncomputable def zby (n : Nat) : List Int32 := match zlit[n]? with
  | some q => q.2.2.2.2
  | none => []
theorem zby_len : ∀ s, s < 37 → (zby s).length ≤ 100 := by decide
theorem zby_of {s : Nat} (hs : s < 37) : ∃ q, zlit[s]? = some q ∧ q.2.2.2.2 = zby s := by
  have h : s < zlit.length := hs
  refine ⟨zlit[s], List.getElem?_eq_getElem h, ?_⟩
  unfold zby
  rw [List.getElem?_eq_getElem h]
section ZPR
variable {σ : Nat → Nat × (Nat → Int32)} {d j pc : Nat} {lv : zLv} {r st : List Value} {m : Nat → Nat → Int32} {W : Nat → Int32} {p b : Nat} {y : (Nat → Nat → Int64) × Bool × Nat × Nat} {o : zO} {M M' : zMem}
theorem zeBL {S : List (Nat × Nat × List Nat)} {a n k : Nat} {rs : List Nat} (hf : zfe j pc = some (.baload, 1)) (hS : S[a]? = some (11, n, rs)) (hn : Nat.ble n 2000 = true) (hk : k < n) (kk : zEv σ d j (pc + 1) lv (.int (m a k) :: r) (S, m, y) o M') : zEv σ d j pc lv (.int (Int32.ofNat k) :: .ref a :: r) (S, m, y) o M' := by
  refine zeS hf rfl ?_ kk
  simp only [zS, zbald, hS, beq_self_eq_true, zinB hk (Nat.le_of_ble_eq_true hn), zcl hk (Nat.le_of_ble_eq_true hn), Bool.not_false, Bool.and_self, cond_true]
theorem zeBS {S : List (Nat × Nat × List Nat)} {a n k : Nat} {rs : List Nat} {x : Int32} (hf : zfe j pc = some (.bastore, 1)) (hS : S[a]? = some (11, n, rs)) (hn : Nat.ble n 2000 = true) (hk : k < n) (kk : zEv σ d j (pc + 1) lv r (S, zm2 m a k (vp_nar .byte x), y) o M') : zEv σ d j pc lv (.int x :: .int (Int32.ofNat k) :: .ref a :: r) (S, m, y) o M' := by
  refine zeS hf rfl ?_ kk
  simp only [zS, zbast, hS, beq_self_eq_true, zinB hk (Nat.le_of_ble_eq_true hn), zcl hk (Nat.le_of_ble_eq_true hn), Bool.not_false, Bool.and_self, cond_true]
theorem zeTp {idx pl : Nat} (hf : zfe j pc = some (.getfield idx, 3)) (hl : (zfp (j / 200)).lookup idx = some (9, 8, pl)) (kk : zEv σ d j (pc + 3) lv (.int (Int32.ofNat p) :: r) (zS1, zrow (TP m p b) 138 W, y) o M') : zEv σ d j pc lv (.ref 137 :: r) (zS1, zrow (TP m p b) 138 W, y) o M' := zeFI hf hl rfl rfl kk
theorem zeTb {idx pl : Nat} (hf : zfe j pc = some (.getfield idx, 3)) (hl : (zfp (j / 200)).lookup idx = some (9, 10, pl)) (kk : zEv σ d j (pc + 3) lv (.int (Int32.ofNat b) :: r) (zS1, zrow (TP m p b) 138 W, y) o M') : zEv σ d j pc lv (.ref 137 :: r) (zS1, zrow (TP m p b) 138 W, y) o M' := zeFI hf hl rfl rfl kk
theorem zeTe {idx pl : Nat} (he : m 137 9 = Int32.ofNat (pe m)) (hf : zfe j pc = some (.getfield idx, 3)) (hl : (zfp (j / 200)).lookup idx = some (9, 9, pl)) (kk : zEv σ d j (pc + 3) lv (.int (Int32.ofNat (pe m)) :: r) (zS1, zrow (TP m p b) 138 W, y) o M') : zEv σ d j pc lv (.ref 137 :: r) (zS1, zrow (TP m p b) 138 W, y) o M' := by
  rw [← he] at kk
  exact zeFI hf hl rfl rfl kk
theorem zeTpS {idx pl q : Nat} (hf : zfe j pc = some (.putfield idx, 3)) (hl : (zfp (j / 200)).lookup idx = some (9, 8, pl)) (kk : zEv σ d j (pc + 3) lv r (zS1, zrow (TP m q b) 138 W, y) o M') : zEv σ d j pc lv (.int (Int32.ofNat q) :: .ref 137 :: r) (zS1, zrow (TP m p b) 138 W, y) o M' := by
  refine zeFP hf hl rfl ?_
  rw [TP_p]
  exact kk
theorem zeTbS {idx pl q : Nat} (hf : zfe j pc = some (.putfield idx, 3)) (hl : (zfp (j / 200)).lookup idx = some (9, 10, pl)) (kk : zEv σ d j (pc + 3) lv r (zS1, zrow (TP m p q) 138 W, y) o M') : zEv σ d j pc lv (.int (Int32.ofNat q) :: .ref 137 :: r) (zS1, zrow (TP m p b) 138 W, y) o M' := by
  refine zeFP hf hl rfl ?_
  rw [TP_b]
  exact kk
theorem zeTB {k : Nat} (hf : zfe j pc = some (.baload, 1)) (hk : k < 400) (kk : zEv σ d j (pc + 1) lv (.int (m 141 k) :: r) (zS1, zrow (TP m p b) 138 W, y) o M') : zEv σ d j pc lv (.int (Int32.ofNat k) :: .ref 141 :: r) (zS1, zrow (TP m p b) 138 W, y) o M' := zeBL hf zS141 rfl hk kk
theorem zeLn {s idx j' pl : Nat} (hs : s < 37) (hf : zfe j pc = some (.invokevirtual idx, 3)) (hm : (zmp (j / 200)).lookup idx = some (6, j', pl)) (hr : zret j (.invokevirtual idx) (.ref (1100 + s) :: r) = none) (ht : zthr j pc = none) (hz : Nat.ble (zsum r) 8 = true) (kk : zEv σ d j (pc + 3) lv (.int (Int32.ofNat (zby s).length) :: r) M o M') : zEv σ d j pc lv (.ref (1100 + s) :: r) M o M' := by
  obtain ⟨q, hq, hb⟩ := zby_of hs
  refine zeM hf rfl rfl hr ht (by simp only [zcall, hm]) ?_ kk
  have h1 : Nat.ble 1100 (1100 + s) = true := Nat.ble_eq.mpr (Nat.le_add_right _ _)
  simp only [zmath, hm, h1, hz, Bool.and_self, cond_true, Nat.add_sub_cancel_left, hq, hb]
theorem zeCh {s k idx j' pl : Nat} (hs : s < 37) (hk : k < (zby s).length) (hf : zfe j pc = some (.invokevirtual idx, 3)) (hm : (zmp (j / 200)).lookup idx = some (7, j', pl)) (hr : zret j (.invokevirtual idx) (.int (Int32.ofNat k) :: .ref (1100 + s) :: r) = none) (ht : zthr j pc = none) (hz : Nat.ble (zsum r) 8 = true) (kk : zEv σ d j (pc + 3) lv (.int ((zby s).getD k 0) :: r) M o M') : zEv σ d j pc lv (.int (Int32.ofNat k) :: .ref (1100 + s) :: r) M o M' := by
  obtain ⟨q, hq, hb⟩ := zby_of hs
  have hl := zby_len s hs
  refine zeM hf rfl rfl hr ht (by simp only [zcall, hm]) ?_ kk
  have h1 : Nat.ble 1100 (1100 + s) = true := Nat.ble_eq.mpr (Nat.le_add_right _ _)
  have h2 : zoutB (Int32.ofNat k) (zby s).length = false := zinB hk (by omega)
  have h3 : (Int32.ofNat k).toNatClampNeg = k := zcl hk (by omega)
  simp only [zmath, hm, h1, hz, Bool.and_self, cond_true, Nat.add_sub_cancel_left, hq, hb, h2, h3, Bool.not_false]
end ZPR
theorem tge_f {a b : Nat} (ha : a ≤ 100000) (hb : b ≤ 100000) (h : zc2 .ge (Int32.ofNat a) (Int32.ofNat b) = false) : a < b := by
  have h1 := of_decide_eq_false h
  rw [Int32.le_iff_toInt_le, zoN (by omega), zoN (by omega)] at h1
  omega
theorem tge_t {a b : Nat} (ha : a ≤ 100000) (hb : b ≤ 100000) (h : zc2 .ge (Int32.ofNat a) (Int32.ofNat b) = true) : b ≤ a := by
  have h1 := of_decide_eq_true h
  rw [Int32.le_iff_toInt_le, zoN (by omega), zoN (by omega)] at h1
  omega
end
section
noncomputable def q_isAt (m : Nat → Nat → Int32) (p : Nat) (lo : Int32) (hi : Int32) : Int32 := (bif zc2 .ge (Int32.ofNat p) (Int32.ofNat (pe m)) then (Int32.ofNat 0) else (bif zc2 .lt (m 141 p) lo then (Int32.ofNat 0) else (bif zc2 .gt (m 141 p) hi then (Int32.ofNat 0) else (Int32.ofNat 1))))
theorem p_isAt {σ : Nat → Nat × (Nat → Int32)} {yy : (Nat → Nat → Int64) × Bool × Nat × Nat} {m : Nat → Nat → Int32} {W : Nat → Int32} {p b : Nat} {lo : Int32} {hi : Int32} {d : Nat} (hd : 1 ≤ d + 1) (hG : PG m) (hp : p ≤ 400) : zEv σ (d + 1) 1844 0 [some (.ref 137), some (.int lo), some (.int hi)] [] (zS1, zrow (TP m p b) 138 W, yy) (.inl (some (.int (q_isAt m p lo hi)))) (zS1, zrow (TP m p b) 138 W, yy) := by
  refine zeP rfl rfl ?_
  refine zeTp rfl rfl ?_
  refine zeP rfl rfl ?_
  refine zeTe hG.1 rfl rfl ?_
  refine zeB2 rfl rfl (fun h1 => ?_) (fun h1 => ?_)
  · refine zeKn (c := 0) rfl rfl rfl ?_
    exact zeRe rfl rfl rfl rfl (by simp only [q_isAt, h1, cond_true, cond_false] <;> rfl) (by simp only [q_isAt, h1, cond_true, cond_false] <;> rfl)
  · refine zeP rfl rfl ?_
    refine zeGR rfl rfl zS137 rfl rfl ?_
    refine zeP rfl rfl ?_
    refine zeTp rfl rfl ?_
    refine zeTB (k := p) rfl (by have := tge_f (by omega) (by have := hG.2; omega) h1; have := hG.2; omega) ?_
    refine zeP rfl rfl ?_
    refine zeB2 rfl rfl (fun h2 => ?_) (fun h2 => ?_)
    · refine zeKn (c := 0) rfl rfl rfl ?_
      exact zeRe rfl rfl rfl rfl (by simp only [q_isAt, h1, h2, cond_true, cond_false] <;> rfl) (by simp only [q_isAt, h1, h2, cond_true, cond_false] <;> rfl)
    · refine zeP rfl rfl ?_
      refine zeGR rfl rfl zS137 rfl rfl ?_
      refine zeP rfl rfl ?_
      refine zeTp rfl rfl ?_
      refine zeTB (k := p) rfl (by have := tge_f (by omega) (by have := hG.2; omega) h1; have := hG.2; omega) ?_
      refine zeP rfl rfl ?_
      refine zeB2 rfl rfl (fun h3 => ?_) (fun h3 => ?_)
      · refine zeKn (c := 0) rfl rfl rfl ?_
        exact zeRe rfl rfl rfl rfl (by simp only [q_isAt, h1, h2, h3, cond_true, cond_false] <;> rfl) (by simp only [q_isAt, h1, h2, h3, cond_true, cond_false] <;> rfl)
      · refine zeKn (c := 1) rfl rfl rfl ?_
        refine zeP rfl rfl ?_
        exact zeRe rfl rfl rfl rfl (by simp only [q_isAt, h1, h2, h3, cond_true, cond_false] <;> rfl) (by simp only [q_isAt, h1, h2, h3, cond_true, cond_false] <;> rfl)
theorem c_isAt {σ : Nat → Nat × (Nat → Int32)} {yy : (Nat → Nat → Int64) × Bool × Nat × Nat} {m : Nat → Nat → Int32} {W : Nat → Int32} {p b : Nat} {lo : Int32} {hi : Int32} (hG : PG m) (hp : p ≤ 400) : zF σ 1 1844 [.ref 137, .int lo, .int hi] (zS1, zrow (TP m p b) 138 W, yy) (.inl (some (.int (q_isAt m p lo hi)))) (zS1, zrow (TP m p b) 138 W, yy) := by
  intro d hd
  obtain ⟨d, rfl⟩ : ∃ k, d = k + 1 := ⟨d - 1, by omega⟩
  exact p_isAt hd hG hp
theorem isAt_out {m : Nat → Nat → Int32} {p : Nat} {lo hi : Int32} (hG : PG m) (hp : p ≤ 400) (h : pe m ≤ p) : q_isAt m p lo hi = Int32.ofNat 0 := by
  unfold q_isAt
  have := hG.2
  rw [zcge (by omega) (by omega) h, cond_true]
theorem isAt_in {m : Nat → Nat → Int32} {p : Nat} {lo hi : Int32} (hG : PG m) (hp : p ≤ 400) (h : zc1 .eq (q_isAt m p lo hi) = false) : p < pe m := by
  apply Nat.lt_of_not_le
  intro hle
  rw [isAt_out hG hp hle] at h
  cases h
theorem isAt_o1 {m : Nat → Nat → Int32} {p : Nat} {lo hi : Int32} (hG : PG m) (hp : p ≤ 400) (h : pe m ≤ p) : zc1 .eq (q_isAt m p lo hi) = true := by
  rw [isAt_out hG hp h]; rfl
noncomputable def l_blanks (m : Nat → Nat → Int32) : Nat → Nat → Nat × Nat
  | 0, p => (p, p)
  | n + 1, p => (bif zc1 .eq (q_isAt m p ((Int32.ofNat 32)) ((Int32.ofNat 32))) then (p, p) else (l_blanks m n ((p + 1))))
theorem w_blanks {σ : Nat → Nat × (Nat → Int32)} {yy : (Nat → Nat → Int64) × Bool × Nat × Nat} {m : Nat → Nat → Int32} {W : (Nat → Int32)} {b : Nat} {d : Nat} (hd : 2 ≤ d + 1) (hG : PG m) : ∀ (n : Nat) (p : Nat), pe m ≤ p + n → p ≤ 400 → zEv σ (d + 1) 1845 0 [some (.ref 137)] [] (zS1, zrow (TP m p b) 138 W, yy) (.inl none) (zS1, zrow (TP m ((l_blanks m n p).1) ((l_blanks m n p).2)) 138 W, yy) := by
  intro n
  induction n with
  | zero =>
    intro p hk hp
    refine zeP rfl rfl ?_
    refine zeKn (c := 32) rfl rfl rfl ?_
    refine zeKn (c := 32) rfl rfl rfl ?_
    refine zeCF rfl rfl rfl rfl rfl rfl (c_isAt (lo := (Int32.ofNat 32)) (hi := (Int32.ofNat 32)) (m := m) (W := W) (p := p) (b := b) (by first | assumption | omega) (by first | assumption | omega)) (by omega) ?_
    dsimp only [Option.toList, List.cons_append, List.nil_append]
    refine zeT1 rfl rfl (isAt_o1 hG hp (by omega)) ?_
    refine zeP rfl rfl ?_
    refine zeP rfl rfl ?_
    refine zeTp rfl rfl ?_
    refine zeTbS rfl rfl ?_
    exact zeRe rfl rfl rfl rfl (by rfl) (by rfl)
  | succ n ih =>
    intro p hk hp
    refine zeP rfl rfl ?_
    refine zeKn (c := 32) rfl rfl rfl ?_
    refine zeKn (c := 32) rfl rfl rfl ?_
    refine zeCF rfl rfl rfl rfl rfl rfl (c_isAt (lo := (Int32.ofNat 32)) (hi := (Int32.ofNat 32)) (m := m) (W := W) (p := p) (b := b) (by first | assumption | omega) (by first | assumption | omega)) (by omega) ?_
    dsimp only [Option.toList, List.cons_append, List.nil_append]
    refine zeB1 rfl rfl (fun h1 => ?_) (fun h1 => ?_)
    · refine zeP rfl rfl ?_
      refine zeP rfl rfl ?_
      refine zeTp rfl rfl ?_
      refine zeTbS rfl rfl ?_
      exact zeRe rfl rfl rfl rfl (by simp only [l_blanks, h1, cond_true, cond_false] <;> rfl) (by simp only [l_blanks, h1, cond_true, cond_false] <;> rfl)
    · refine zeP rfl rfl ?_
      refine zeP rfl rfl ?_
      refine zeTp rfl rfl ?_
      refine zeKn (c := 1) rfl rfl rfl ?_
      refine zeAdd rfl ?_
      refine zeTpS rfl rfl ?_
      refine zeP rfl rfl ?_
      simp only [l_blanks, h1, cond_true, cond_false]
      exact ih  ((p + 1)) (by omega) (by have := isAt_in hG hp h1; have := hG.2; omega)
noncomputable def skB (m : Nat → Nat → Int32) (p : Nat) : Nat := (l_blanks m (pe m - p) p).1
theorem l_blanks_b (m : Nat → Nat → Int32) : ∀ n p, (l_blanks m n p).2 = (l_blanks m n p).1 := by
  intro n
  induction n with
  | zero => intro p; rfl
  | succ n ih =>
    intro p
    unfold l_blanks
    cases zc1 .eq (q_isAt m p (Int32.ofNat 32) (Int32.ofNat 32)) with
    | true => rfl
    | false => exact ih (p + 1)
theorem l_blanks_le {m : Nat → Nat → Int32} (hG : PG m) : ∀ n p, p ≤ pe m → p ≤ (l_blanks m n p).1 ∧ (l_blanks m n p).1 ≤ pe m := by
  intro n
  induction n with
  | zero => intro p h; exact ⟨Nat.le_refl _, h⟩
  | succ n ih =>
    intro p h
    have := hG.2
    unfold l_blanks
    cases h1 : zc1 .eq (q_isAt m p (Int32.ofNat 32) (Int32.ofNat 32)) with
    | true => exact ⟨Nat.le_refl _, h⟩
    | false =>
      have := isAt_in hG (by omega) h1
      have := ih (p + 1) (by omega)
      show p ≤ (l_blanks m n (p + 1)).1 ∧ _
      exact ⟨by omega, this.2⟩
theorem skB_le {m : Nat → Nat → Int32} {p : Nat} (hG : PG m) (h : p ≤ pe m) : p ≤ skB m p ∧ skB m p ≤ pe m := l_blanks_le hG _ p h
theorem c_blanks {σ : Nat → Nat × (Nat → Int32)} {yy : (Nat → Nat → Int64) × Bool × Nat × Nat} {m : Nat → Nat → Int32} {W : Nat → Int32} {p b : Nat} (hG : PG m) (hp : p ≤ pe m) : zF σ 2 1845 [.ref 137] (zS1, zrow (TP m p b) 138 W, yy) (.inl none) (zS1, zrow (TP m (skB m p) (skB m p)) 138 W, yy) := by
  intro d hd
  obtain ⟨d, rfl⟩ : ∃ k, d = k + 1 := ⟨d - 1, by omega⟩
  have h := w_blanks (σ := σ) (yy := yy) (m := m) (W := W) (b := b) hd hG (pe m - p) p (by omega) (by have := hG.2; omega)
  rw [l_blanks_b] at h
  exact h
noncomputable def l_letters (m : Nat → Nat → Int32) : Nat → Nat → Nat
  | 0, p => p
  | n + 1, p => (bif zc1 .eq (q_isAt m p ((Int32.ofNat 97)) ((Int32.ofNat 122))) then p else (l_letters m n ((p + 1))))
theorem w_letters {σ : Nat → Nat × (Nat → Int32)} {yy : (Nat → Nat → Int64) × Bool × Nat × Nat} {m : Nat → Nat → Int32} {W : (Nat → Int32)} {b : Nat} {d : Nat} (hd : 2 ≤ d + 1) (hG : PG m) : ∀ (n : Nat) (p : Nat), pe m ≤ p + n → p ≤ 400 → zEv σ (d + 1) 1846 4 [some (.ref 137)] [] (zS1, zrow (TP m p b) 138 W, yy) (.inl none) (zS1, zrow (TP m ((l_letters m n p)) b) 138 W, yy) := by
  intro n
  induction n with
  | zero =>
    intro p hk hp
    refine zeP rfl rfl ?_
    refine zeKn (c := 97) rfl rfl rfl ?_
    refine zeKn (c := 122) rfl rfl rfl ?_
    refine zeCF rfl rfl rfl rfl rfl rfl (c_isAt (lo := (Int32.ofNat 97)) (hi := (Int32.ofNat 122)) (m := m) (W := W) (p := p) (b := b) (by first | assumption | omega) (by first | assumption | omega)) (by omega) ?_
    dsimp only [Option.toList, List.cons_append, List.nil_append]
    refine zeT1 rfl rfl (isAt_o1 hG hp (by omega)) ?_
    exact zeRe rfl rfl rfl rfl (by rfl) (by rfl)
  | succ n ih =>
    intro p hk hp
    refine zeP rfl rfl ?_
    refine zeKn (c := 97) rfl rfl rfl ?_
    refine zeKn (c := 122) rfl rfl rfl ?_
    refine zeCF rfl rfl rfl rfl rfl rfl (c_isAt (lo := (Int32.ofNat 97)) (hi := (Int32.ofNat 122)) (m := m) (W := W) (p := p) (b := b) (by first | assumption | omega) (by first | assumption | omega)) (by omega) ?_
    dsimp only [Option.toList, List.cons_append, List.nil_append]
    refine zeB1 rfl rfl (fun h1 => ?_) (fun h1 => ?_)
    · exact zeRe rfl rfl rfl rfl (by simp only [l_letters, h1, cond_true, cond_false] <;> rfl) (by simp only [l_letters, h1, cond_true, cond_false] <;> rfl)
    · refine zeP rfl rfl ?_
      refine zeP rfl rfl ?_
      refine zeTp rfl rfl ?_
      refine zeKn (c := 1) rfl rfl rfl ?_
      refine zeAdd rfl ?_
      refine zeTpS rfl rfl ?_
      refine zeP rfl rfl ?_
      simp only [l_letters, h1, cond_true, cond_false]
      exact ih  ((p + 1)) (by omega) (by have := isAt_in hG hp h1; have := hG.2; omega)
theorem l_letters_le {m : Nat → Nat → Int32} (hG : PG m) : ∀ n p, p ≤ pe m → p ≤ l_letters m n p ∧ l_letters m n p ≤ pe m := by
  intro n
  induction n with
  | zero => intro p h; exact ⟨Nat.le_refl _, h⟩
  | succ n ih =>
    intro p h
    have := hG.2
    unfold l_letters
    cases h1 : zc1 .eq (q_isAt m p (Int32.ofNat 97) (Int32.ofNat 122)) with
    | true => exact ⟨Nat.le_refl _, h⟩
    | false =>
      have := isAt_in hG (by omega) h1
      have := ih (p + 1) (by omega)
      show p ≤ l_letters m n (p + 1) ∧ _
      exact ⟨by omega, this.2⟩
noncomputable def skL (m : Nat → Nat → Int32) (p : Nat) : Nat := l_letters m (pe m - skB m p) (skB m p)
theorem skL_le {m : Nat → Nat → Int32} {p : Nat} (hG : PG m) (h : p ≤ pe m) : skB m p ≤ skL m p ∧ skL m p ≤ pe m := l_letters_le hG _ _ (skB_le hG h).2
noncomputable def q_letters (m : Nat → Nat → Int32) (p : Nat) : Nat × Nat := ((l_letters m ((pe m - skB m p)) ((skB m p))), (skB m p))
theorem p_letters {σ : Nat → Nat × (Nat → Int32)} {yy : (Nat → Nat → Int64) × Bool × Nat × Nat} {m : Nat → Nat → Int32} {W : Nat → Int32} {p b : Nat} {d : Nat} (hd : 3 ≤ d + 1) (hG : PG m) (hp : p ≤ pe m) : zEv σ (d + 1) 1846 0 [some (.ref 137)] [] (zS1, zrow (TP m p b) 138 W, yy) (.inl none) (zS1, zrow (TP m ((q_letters m p).1) ((q_letters m p).2)) 138 W, yy) := by
  refine zeP rfl rfl ?_
  refine zeCF rfl rfl rfl rfl rfl rfl (c_blanks (m := m) (W := W) (p := p) (b := b)  hG hp) (by omega) ?_
  dsimp only [Option.toList, List.cons_append, List.nil_append]
  simp only [q_letters, cond_true, cond_false]
  exact w_letters  (m := m) (W := W) (b := (skB m p)) (by omega) hG ((pe m - skB m p))  ((skB m p)) (by omega) (by have := (skB_le hG hp).2; have := hG.2; omega)
theorem c_letters {σ : Nat → Nat × (Nat → Int32)} {yy : (Nat → Nat → Int64) × Bool × Nat × Nat} {m : Nat → Nat → Int32} {W : Nat → Int32} {p b : Nat} (hG : PG m) (hp : p ≤ pe m) : zF σ 3 1846 [.ref 137] (zS1, zrow (TP m p b) 138 W, yy) (.inl none) (zS1, zrow (TP m ((q_letters m p).1) ((q_letters m p).2)) 138 W, yy) := by
  intro d hd
  obtain ⟨d, rfl⟩ : ∃ k, d = k + 1 := ⟨d - 1, by omega⟩
  exact p_letters hd hG hp
noncomputable def l_isWord (m : Nat → Nat → Int32) (b : Nat) (s : Nat) : Nat → Int32 → Nat → Int32
  | 0, is, k => (bif zc1 .eq is then is else is)
  | n + 1, is, k => (bif zc1 .eq is then is else (bif zc2 .ne (m 141 ((b + k))) ((zby s).getD k 0) then (l_isWord m b s n ((Int32.ofNat 0)) ((k + 1))) else (l_isWord m b s n ((Int32.ofNat 1)) ((k + 1)))))
theorem w_isWord {σ : Nat → Nat × (Nat → Int32)} {yy : (Nat → Nat → Int64) × Bool × Nat × Nat} {m : Nat → Nat → Int32} {W : (Nat → Int32)} {p : Nat} {b : Nat} {s : Nat} {d : Nat} (hd : 1 ≤ d + 1) (hG : PG m) (hs : s < 37) (hb : b + (zby s).length ≤ 400) : ∀ (n : Nat) (is : Int32) (k : Nat), k + n = (zby s).length → is = 0 ∨ is = 1 → zEv σ (d + 1) 1847 24 [some (.ref 137), some (.ref (1100 + s)), some (.int is), some (.int (Int32.ofNat k))] [] (zS1, zrow (TP m p b) 138 W, yy) (.inl (some (.int (l_isWord m b s n is k)))) (zS1, zrow (TP m p b) 138 W, yy) := by
  intro n
  induction n with
  | zero =>
    intro is k hk his
    refine zeP rfl rfl ?_
    refine zeB1 rfl rfl (fun h1 => ?_) (fun h1 => ?_)
    · refine zeP rfl rfl ?_
      exact zeRe rfl rfl rfl (zretB rfl rfl his) (by simp only [l_isWord, h1, cond_true, cond_false] <;> rfl) (by simp only [l_isWord, h1, cond_true, cond_false] <;> rfl)
    · refine zeP rfl rfl ?_
      refine zeP rfl rfl ?_
      refine zeLn hs rfl rfl rfl rfl rfl ?_
      refine zeT2 rfl rfl (zcge (by have := zby_len s hs; omega) (by have := zby_len s hs; omega) (by omega)) ?_
      refine zeP rfl rfl ?_
      exact zeRe rfl rfl rfl (zretB rfl rfl his) (by simp only [l_isWord, h1, cond_true, cond_false] <;> rfl) (by simp only [l_isWord, h1, cond_true, cond_false] <;> rfl)
  | succ n ih =>
    intro is k hk his
    refine zeP rfl rfl ?_
    refine zeB1 rfl rfl (fun h1 => ?_) (fun h1 => ?_)
    · refine zeP rfl rfl ?_
      exact zeRe rfl rfl rfl (zretB rfl rfl his) (by simp only [l_isWord, h1, cond_true, cond_false] <;> rfl) (by simp only [l_isWord, h1, cond_true, cond_false] <;> rfl)
    · refine zeP rfl rfl ?_
      refine zeP rfl rfl ?_
      refine zeLn hs rfl rfl rfl rfl rfl ?_
      refine zeF2 rfl rfl (zcge_f (by have := zby_len s hs; omega) (by have := zby_len s hs; omega) (by omega)) ?_
      refine zeP rfl rfl ?_
      refine zeGR rfl rfl zS137 rfl rfl ?_
      refine zeP rfl rfl ?_
      refine zeTb rfl rfl ?_
      refine zeP rfl rfl ?_
      refine zeAdd rfl ?_
      refine zeTB (k := (b + k)) rfl (by omega) ?_
      refine zeP rfl rfl ?_
      refine zeP rfl rfl ?_
      refine zeCh hs (by omega) rfl rfl rfl rfl rfl ?_
      refine zeB2 rfl rfl (fun h2 => ?_) (fun h2 => ?_)
      · refine zeKn (c := 0) rfl rfl rfl ?_
        refine zeP rfl rfl ?_
        refine zeInc rfl rfl ?_
        refine zeP rfl rfl ?_
        simp only [l_isWord, h1, h2, cond_true, cond_false]
        exact ih ((Int32.ofNat 0)) ((k + 1))  (by omega) (by first | exact Or.inr rfl | exact Or.inl rfl)
      · refine zeKn (c := 1) rfl rfl rfl ?_
        refine zeP rfl rfl ?_
        refine zeP rfl rfl ?_
        refine zeInc rfl rfl ?_
        refine zeP rfl rfl ?_
        simp only [l_isWord, h1, h2, cond_true, cond_false]
        exact ih ((Int32.ofNat 1)) ((k + 1))  (by omega) (by first | exact Or.inr rfl | exact Or.inl rfl)
theorem tne_f {a b : Nat} (ha : a ≤ 100000) (hb : b ≤ 100000) (h : zc2 .ne (Int32.ofNat a) (Int32.ofNat b) = false) : a = b := by
  have h1 := of_decide_eq_false h
  have h2 : Int32.ofNat a = Int32.ofNat b := Classical.not_not.mp h1
  have h3 := congrArg Int32.toInt h2
  rw [zoN (by omega), zoN (by omega)] at h3
  omega
theorem isw_b {s p b : Nat} (hs : s < 37) (hp : p ≤ 400) (hbp : b ≤ p) (h : zc2 .ne (Int32.ofNat (p - b)) (Int32.ofNat (zby s).length) = false) : b + (zby s).length ≤ 400 := by
  have := zby_len s hs
  have := tne_f (by omega) (by omega) h
  omega
noncomputable def q_isWord (m : Nat → Nat → Int32) (p : Nat) (b : Nat) (s : Nat) : Int32 := (bif zc2 .ne (Int32.ofNat (p - b)) (Int32.ofNat (zby s).length) then (Int32.ofNat 0) else (l_isWord m b s ((zby s).length) ((Int32.ofNat 1)) 0))
theorem p_isWord {σ : Nat → Nat × (Nat → Int32)} {yy : (Nat → Nat → Int64) × Bool × Nat × Nat} {m : Nat → Nat → Int32} {W : Nat → Int32} {p b : Nat} {s : Nat} {d : Nat} (hd : 1 ≤ d + 1) (hG : PG m) (hs : s < 37) (hbp : b ≤ p) (hp : p ≤ 400) : zEv σ (d + 1) 1847 0 [some (.ref 137), some (.ref (1100 + s)), none, none] [] (zS1, zrow (TP m p b) 138 W, yy) (.inl (some (.int (q_isWord m p b s)))) (zS1, zrow (TP m p b) 138 W, yy) := by
  refine zeP rfl rfl ?_
  refine zeTp rfl rfl ?_
  refine zeP rfl rfl ?_
  refine zeTb rfl rfl ?_
  refine zeSub rfl hbp ?_
  refine zeP rfl rfl ?_
  refine zeLn hs rfl rfl rfl rfl rfl ?_
  refine zeB2 rfl rfl (fun h1 => ?_) (fun h1 => ?_)
  · refine zeKn (c := 0) rfl rfl rfl ?_
    refine zeP rfl rfl ?_
    refine zeKn (c := 0) rfl rfl rfl ?_
    refine zeP rfl rfl ?_
    refine zeP rfl rfl ?_
    refine zeT1 rfl rfl (show zc1 .eq (Int32.ofNat 0) = true by decide) ?_
    refine zeP rfl rfl ?_
    exact zeRe rfl rfl rfl (zretB rfl rfl (Or.inl rfl)) (by simp only [q_isWord, h1, cond_true, cond_false] <;> rfl) (by simp only [q_isWord, h1, cond_true, cond_false] <;> rfl)
  · refine zeKn (c := 1) rfl rfl rfl ?_
    refine zeP rfl rfl ?_
    refine zeP rfl rfl ?_
    refine zeKn (c := 0) rfl rfl rfl ?_
    refine zeP rfl rfl ?_
    simp only [q_isWord, h1, cond_true, cond_false]
    exact w_isWord (s := s) (m := m) (W := W) (p := p) (b := b) (by omega) hG hs (isw_b hs hp hbp h1) ((zby s).length) ((Int32.ofNat 1)) (0)  (by omega) (Or.inr rfl)
theorem c_isWord {σ : Nat → Nat × (Nat → Int32)} {yy : (Nat → Nat → Int64) × Bool × Nat × Nat} {m : Nat → Nat → Int32} {W : Nat → Int32} {p b : Nat} {s : Nat} (hG : PG m) (hs : s < 37) (hbp : b ≤ p) (hp : p ≤ 400) : zF σ 1 1847 [.ref 137, .ref (1100 + s)] (zS1, zrow (TP m p b) 138 W, yy) (.inl (some (.int (q_isWord m p b s)))) (zS1, zrow (TP m p b) 138 W, yy) := by
  intro d hd
  obtain ⟨d, rfl⟩ : ∃ k, d = k + 1 := ⟨d - 1, by omega⟩
  exact p_isWord hd hG hs hbp hp
noncomputable def q_passesSign (m : Nat → Nat → Int32) (p : Nat) (c : Nat) : Int32 × Nat × Nat := (bif zc1 .ne (q_isAt m ((skB m p)) ((Int32.ofNat c)) ((Int32.ofNat c))) then ((Int32.ofNat 1), ((skB m p) + 1), (skB m p)) else ((Int32.ofNat 0), (skB m p), (skB m p)))
theorem p_passesSign {σ : Nat → Nat × (Nat → Int32)} {yy : (Nat → Nat → Int64) × Bool × Nat × Nat} {m : Nat → Nat → Int32} {W : Nat → Int32} {p b : Nat} {c : Nat} {d : Nat} (hd : 3 ≤ d + 1) (hG : PG m) (hp : p ≤ pe m) : zEv σ (d + 1) 1848 0 [some (.ref 137), some (.int (Int32.ofNat c))] [] (zS1, zrow (TP m p b) 138 W, yy) (.inl (some (.int (q_passesSign m p c).1))) (zS1, zrow (TP m ((q_passesSign m p c).2.1) ((q_passesSign m p c).2.2)) 138 W, yy) := by
  refine zeP rfl rfl ?_
  refine zeCF rfl rfl rfl rfl rfl rfl (c_blanks (m := m) (W := W) (p := p) (b := b)  hG hp) (by omega) ?_
  dsimp only [Option.toList, List.cons_append, List.nil_append]
  refine zeP rfl rfl ?_
  refine zeP rfl rfl ?_
  refine zeP rfl rfl ?_
  refine zeCF rfl rfl rfl rfl rfl rfl (c_isAt (lo := (Int32.ofNat c)) (hi := (Int32.ofNat c)) (m := m) (W := W) (p := (skB m p)) (b := (skB m p)) hG (by have := (skB_le hG hp).2; have := hG.2; omega)) (by omega) ?_
  dsimp only [Option.toList, List.cons_append, List.nil_append]
  refine zeB1 rfl rfl (fun h1 => ?_) (fun h1 => ?_)
  · refine zeP rfl rfl ?_
    refine zeP rfl rfl ?_
    refine zeTp rfl rfl ?_
    refine zeKn (c := 1) rfl rfl rfl ?_
    refine zeAdd rfl ?_
    refine zeTpS rfl rfl ?_
    refine zeKn (c := 1) rfl rfl rfl ?_
    exact zeRe rfl rfl rfl rfl (by simp only [q_passesSign, h1, cond_true, cond_false] <;> rfl) (by simp only [q_passesSign, h1, cond_true, cond_false] <;> rfl)
  · refine zeKn (c := 0) rfl rfl rfl ?_
    exact zeRe rfl rfl rfl rfl (by simp only [q_passesSign, h1, cond_true, cond_false] <;> rfl) (by simp only [q_passesSign, h1, cond_true, cond_false] <;> rfl)
theorem c_passesSign {σ : Nat → Nat × (Nat → Int32)} {yy : (Nat → Nat → Int64) × Bool × Nat × Nat} {m : Nat → Nat → Int32} {W : Nat → Int32} {p b : Nat} {c : Nat} (hG : PG m) (hp : p ≤ pe m) : zF σ 3 1848 [.ref 137, .int (Int32.ofNat c)] (zS1, zrow (TP m p b) 138 W, yy) (.inl (some (.int (q_passesSign m p c).1))) (zS1, zrow (TP m ((q_passesSign m p c).2.1) ((q_passesSign m p c).2.2)) 138 W, yy) := by
  intro d hd
  obtain ⟨d, rfl⟩ : ∃ k, d = k + 1 := ⟨d - 1, by omega⟩
  exact p_passesSign hd hG hp
noncomputable def l_number (m : Nat → Nat → Int32) (b : Nat) (lo : Int32) (hi : Int32) : Nat → Int32 → Nat → Int32 × Nat
  | 0, v, p => (bif zc2 .eq (Int32.ofNat p) (Int32.ofNat b) then ((-1), p) else (bif zc2 .gt (Int32.ofNat (p - b)) (Int32.ofNat 4) then ((-1), p) else (bif zc2 .lt v lo then ((-1), p) else (bif zc2 .le v hi then (v, p) else ((-1), p)))))
  | n + 1, v, p => (bif zc1 .eq (q_isAt m p ((Int32.ofNat 48)) ((Int32.ofNat 57))) then (bif zc2 .eq (Int32.ofNat p) (Int32.ofNat b) then ((-1), p) else (bif zc2 .gt (Int32.ofNat (p - b)) (Int32.ofNat 4) then ((-1), p) else (bif zc2 .lt v lo then ((-1), p) else (bif zc2 .le v hi then (v, p) else ((-1), p))))) else (bif zc2 .ge (Int32.ofNat (p - b)) (Int32.ofNat 4) then (l_number m b lo hi n v ((p + 1))) else (l_number m b lo hi n (((((Int32.ofNat 10) * v) + (m 141 p)) - (Int32.ofNat 48))) ((p + 1)))))
theorem w_number {σ : Nat → Nat × (Nat → Int32)} {yy : (Nat → Nat → Int64) × Bool × Nat × Nat} {m : Nat → Nat → Int32} {W : (Nat → Int32)} {b : Nat} {lo : Int32} {hi : Int32} {d : Nat} (hd : 2 ≤ d + 1) (hG : PG m) : ∀ (n : Nat) (v : Int32) (p : Nat), pe m ≤ p + n → p ≤ 400 → b ≤ p → zEv σ (d + 1) 1849 6 [some (.ref 137), some (.int lo), some (.int hi), some (.int v)] [] (zS1, zrow (TP m p b) 138 W, yy) (.inl (some (.int (l_number m b lo hi n v p).1))) (zS1, zrow (TP m ((l_number m b lo hi n v p).2) b) 138 W, yy) := by
  intro n
  induction n with
  | zero =>
    intro v p hk hp hbp
    refine zeP rfl rfl ?_
    refine zeKn (c := 48) rfl rfl rfl ?_
    refine zeKn (c := 57) rfl rfl rfl ?_
    refine zeCF rfl rfl rfl rfl rfl rfl (c_isAt (lo := (Int32.ofNat 48)) (hi := (Int32.ofNat 57)) (m := m) (W := W) (p := p) (b := b) (by first | assumption | omega) (by first | assumption | omega)) (by omega) ?_
    dsimp only [Option.toList, List.cons_append, List.nil_append]
    refine zeT1 rfl rfl (isAt_o1 hG hp (by omega)) ?_
    refine zeP rfl rfl ?_
    refine zeTp rfl rfl ?_
    refine zeP rfl rfl ?_
    refine zeTb rfl rfl ?_
    refine zeB2 rfl rfl (fun h1 => ?_) (fun h1 => ?_)
    · refine zeK (v := -1) rfl rfl rfl ?_
      refine zeP rfl rfl ?_
      exact zeRe rfl rfl rfl rfl (by simp only [l_number, h1, cond_true, cond_false] <;> rfl) (by simp only [l_number, h1, cond_true, cond_false] <;> rfl)
    · refine zeP rfl rfl ?_
      refine zeTp rfl rfl ?_
      refine zeP rfl rfl ?_
      refine zeTb rfl rfl ?_
      refine zeSub rfl hbp ?_
      refine zeKn (c := 4) rfl rfl rfl ?_
      refine zeB2 rfl rfl (fun h2 => ?_) (fun h2 => ?_)
      · refine zeK (v := -1) rfl rfl rfl ?_
        refine zeP rfl rfl ?_
        exact zeRe rfl rfl rfl rfl (by simp only [l_number, h1, h2, cond_true, cond_false] <;> rfl) (by simp only [l_number, h1, h2, cond_true, cond_false] <;> rfl)
      · refine zeP rfl rfl ?_
        refine zeP rfl rfl ?_
        refine zeB2 rfl rfl (fun h3 => ?_) (fun h3 => ?_)
        · refine zeK (v := -1) rfl rfl rfl ?_
          refine zeP rfl rfl ?_
          exact zeRe rfl rfl rfl rfl (by simp only [l_number, h1, h2, h3, cond_true, cond_false] <;> rfl) (by simp only [l_number, h1, h2, h3, cond_true, cond_false] <;> rfl)
        · refine zeP rfl rfl ?_
          refine zeP rfl rfl ?_
          refine zeB2 rfl rfl (fun h4 => ?_) (fun h4 => ?_)
          · refine zeP rfl rfl ?_
            exact zeRe rfl rfl rfl rfl (by simp only [l_number, h1, h2, h3, h4, cond_true, cond_false] <;> rfl) (by simp only [l_number, h1, h2, h3, h4, cond_true, cond_false] <;> rfl)
          · refine zeK (v := -1) rfl rfl rfl ?_
            refine zeP rfl rfl ?_
            exact zeRe rfl rfl rfl rfl (by simp only [l_number, h1, h2, h3, h4, cond_true, cond_false] <;> rfl) (by simp only [l_number, h1, h2, h3, h4, cond_true, cond_false] <;> rfl)
  | succ n ih =>
    intro v p hk hp hbp
    refine zeP rfl rfl ?_
    refine zeKn (c := 48) rfl rfl rfl ?_
    refine zeKn (c := 57) rfl rfl rfl ?_
    refine zeCF rfl rfl rfl rfl rfl rfl (c_isAt (lo := (Int32.ofNat 48)) (hi := (Int32.ofNat 57)) (m := m) (W := W) (p := p) (b := b) (by first | assumption | omega) (by first | assumption | omega)) (by omega) ?_
    dsimp only [Option.toList, List.cons_append, List.nil_append]
    refine zeB1 rfl rfl (fun h1 => ?_) (fun h1 => ?_)
    · refine zeP rfl rfl ?_
      refine zeTp rfl rfl ?_
      refine zeP rfl rfl ?_
      refine zeTb rfl rfl ?_
      refine zeB2 rfl rfl (fun h2 => ?_) (fun h2 => ?_)
      · refine zeK (v := -1) rfl rfl rfl ?_
        refine zeP rfl rfl ?_
        exact zeRe rfl rfl rfl rfl (by simp only [l_number, h1, h2, cond_true, cond_false] <;> rfl) (by simp only [l_number, h1, h2, cond_true, cond_false] <;> rfl)
      · refine zeP rfl rfl ?_
        refine zeTp rfl rfl ?_
        refine zeP rfl rfl ?_
        refine zeTb rfl rfl ?_
        refine zeSub rfl hbp ?_
        refine zeKn (c := 4) rfl rfl rfl ?_
        refine zeB2 rfl rfl (fun h3 => ?_) (fun h3 => ?_)
        · refine zeK (v := -1) rfl rfl rfl ?_
          refine zeP rfl rfl ?_
          exact zeRe rfl rfl rfl rfl (by simp only [l_number, h1, h2, h3, cond_true, cond_false] <;> rfl) (by simp only [l_number, h1, h2, h3, cond_true, cond_false] <;> rfl)
        · refine zeP rfl rfl ?_
          refine zeP rfl rfl ?_
          refine zeB2 rfl rfl (fun h4 => ?_) (fun h4 => ?_)
          · refine zeK (v := -1) rfl rfl rfl ?_
            refine zeP rfl rfl ?_
            exact zeRe rfl rfl rfl rfl (by simp only [l_number, h1, h2, h3, h4, cond_true, cond_false] <;> rfl) (by simp only [l_number, h1, h2, h3, h4, cond_true, cond_false] <;> rfl)
          · refine zeP rfl rfl ?_
            refine zeP rfl rfl ?_
            refine zeB2 rfl rfl (fun h5 => ?_) (fun h5 => ?_)
            · refine zeP rfl rfl ?_
              exact zeRe rfl rfl rfl rfl (by simp only [l_number, h1, h2, h3, h4, h5, cond_true, cond_false] <;> rfl) (by simp only [l_number, h1, h2, h3, h4, h5, cond_true, cond_false] <;> rfl)
            · refine zeK (v := -1) rfl rfl rfl ?_
              refine zeP rfl rfl ?_
              exact zeRe rfl rfl rfl rfl (by simp only [l_number, h1, h2, h3, h4, h5, cond_true, cond_false] <;> rfl) (by simp only [l_number, h1, h2, h3, h4, h5, cond_true, cond_false] <;> rfl)
    · refine zeP rfl rfl ?_
      refine zeTp rfl rfl ?_
      refine zeP rfl rfl ?_
      refine zeTb rfl rfl ?_
      refine zeSub rfl hbp ?_
      refine zeKn (c := 4) rfl rfl rfl ?_
      refine zeB2 rfl rfl (fun h6 => ?_) (fun h6 => ?_)
      · refine zeP rfl rfl ?_
        refine zeP rfl rfl ?_
        refine zeP rfl rfl ?_
        refine zeP rfl rfl ?_
        refine zeTp rfl rfl ?_
        refine zeKn (c := 1) rfl rfl rfl ?_
        refine zeAdd rfl ?_
        refine zeTpS rfl rfl ?_
        refine zeP rfl rfl ?_
        simp only [l_number, h1, h6, cond_true, cond_false]
        exact ih (v) ((p + 1)) (by omega) (by have := isAt_in hG hp h1; have := hG.2; omega) (by omega)
      · refine zeKn (c := 10) rfl rfl rfl ?_
        refine zeP rfl rfl ?_
        refine zeP rfl rfl ?_
        refine zeP rfl rfl ?_
        refine zeGR rfl rfl zS137 rfl rfl ?_
        refine zeP rfl rfl ?_
        refine zeTp rfl rfl ?_
        refine zeTB (k := p) rfl (by have := isAt_in hG hp h1; have := hG.2; omega) ?_
        refine zeP rfl rfl ?_
        refine zeKn (c := 48) rfl rfl rfl ?_
        refine zeP rfl rfl ?_
        refine zeP rfl rfl ?_
        refine zeP rfl rfl ?_
        refine zeP rfl rfl ?_
        refine zeP rfl rfl ?_
        refine zeTp rfl rfl ?_
        refine zeKn (c := 1) rfl rfl rfl ?_
        refine zeAdd rfl ?_
        refine zeTpS rfl rfl ?_
        refine zeP rfl rfl ?_
        simp only [l_number, h1, h6, cond_true, cond_false]
        exact ih (((((Int32.ofNat 10) * v) + (m 141 p)) - (Int32.ofNat 48))) ((p + 1)) (by omega) (by have := isAt_in hG hp h1; have := hG.2; omega) (by omega)
noncomputable def q_number (m : Nat → Nat → Int32) (p : Nat) (lo : Int32) (hi : Int32) : Int32 × Nat × Nat := ((l_number m ((skB m p)) lo hi ((pe m - skB m p)) ((Int32.ofNat 0)) ((skB m p))).1, (l_number m ((skB m p)) lo hi ((pe m - skB m p)) ((Int32.ofNat 0)) ((skB m p))).2, (skB m p))
theorem p_number {σ : Nat → Nat × (Nat → Int32)} {yy : (Nat → Nat → Int64) × Bool × Nat × Nat} {m : Nat → Nat → Int32} {W : Nat → Int32} {p b : Nat} {lo : Int32} {hi : Int32} {d : Nat} (hd : 3 ≤ d + 1) (hG : PG m) (hp : p ≤ pe m) : zEv σ (d + 1) 1849 0 [some (.ref 137), some (.int lo), some (.int hi), none] [] (zS1, zrow (TP m p b) 138 W, yy) (.inl (some (.int (q_number m p lo hi).1))) (zS1, zrow (TP m ((q_number m p lo hi).2.1) ((q_number m p lo hi).2.2)) 138 W, yy) := by
  refine zeP rfl rfl ?_
  refine zeCF rfl rfl rfl rfl rfl rfl (c_blanks (m := m) (W := W) (p := p) (b := b)  hG hp) (by omega) ?_
  dsimp only [Option.toList, List.cons_append, List.nil_append]
  refine zeKn (c := 0) rfl rfl rfl ?_
  refine zeP rfl rfl ?_
  simp only [q_number, cond_true, cond_false]
  exact w_number (lo := lo) (hi := hi) (m := m) (W := W) (b := (skB m p)) (by omega) hG ((pe m - skB m p)) ((Int32.ofNat 0)) ((skB m p)) (by omega) (by have := (skB_le hG hp).2; have := hG.2; omega) (Nat.le_refl _)
theorem c_number {σ : Nat → Nat × (Nat → Int32)} {yy : (Nat → Nat → Int64) × Bool × Nat × Nat} {m : Nat → Nat → Int32} {W : Nat → Int32} {p b : Nat} {lo : Int32} {hi : Int32} (hG : PG m) (hp : p ≤ pe m) : zF σ 3 1849 [.ref 137, .int lo, .int hi] (zS1, zrow (TP m p b) 138 W, yy) (.inl (some (.int (q_number m p lo hi).1))) (zS1, zrow (TP m ((q_number m p lo hi).2.1) ((q_number m p lo hi).2.2)) 138 W, yy) := by
  intro d hd
  obtain ⟨d, rfl⟩ : ∃ k, d = k + 1 := ⟨d - 1, by omega⟩
  exact p_number hd hG hp
end
section
theorem l_number_le {m : Nat → Nat → Int32} {b : Nat} {lo hi : Int32} (hG : PG m) : ∀ n v p, p ≤ pe m → p ≤ (l_number m b lo hi n v p).2 ∧ (l_number m b lo hi n v p).2 ≤ pe m := by
  intro n
  induction n with
  | zero =>
    intro v p h
    unfold l_number
    have e : ∀ (c1 c2 c3 c4 : Bool) (a1 a2 a3 a4 a5 : Int32), (bif c1 then (a1, p) else bif c2 then (a2, p) else bif c3 then (a3, p) else bif c4 then (a4, p) else (a5, p)).2 = p := by
      intro c1 c2 c3 c4 _ _ _ _ _
      cases c1 <;> cases c2 <;> cases c3 <;> cases c4 <;> rfl
    rw [e]
    exact ⟨Nat.le_refl _, h⟩
  | succ n ih =>
    intro v p h
    have := hG.2
    unfold l_number
    cases h1 : zc1 .eq (q_isAt m p (Int32.ofNat 48) (Int32.ofNat 57)) with
    | true =>
      rw [cond_true]
      have e : ∀ (c1 c2 c3 c4 : Bool) (a1 a2 a3 a4 a5 : Int32), (bif c1 then (a1, p) else bif c2 then (a2, p) else bif c3 then (a3, p) else bif c4 then (a4, p) else (a5, p)).2 = p := by
        intro c1 c2 c3 c4 _ _ _ _ _
        cases c1 <;> cases c2 <;> cases c3 <;> cases c4 <;> rfl
      rw [e]
      exact ⟨Nat.le_refl _, h⟩
    | false =>
      rw [cond_false]
      have := isAt_in hG (by omega) h1
      cases zc2 .ge (Int32.ofNat (p - b)) (Int32.ofNat 4) with
      | true =>
        rw [cond_true]
        have := ih v (p + 1) (by omega)
        exact ⟨by omega, this.2⟩
      | false =>
        rw [cond_false]
        have := ih (Int32.ofNat 10 * v + m 141 p - Int32.ofNat 48) (p + 1) (by omega)
        exact ⟨by omega, this.2⟩
theorem number_le {m : Nat → Nat → Int32} {p : Nat} {lo hi : Int32} (hG : PG m) (h : p ≤ pe m) : skB m p ≤ (q_number m p lo hi).2.1 ∧ (q_number m p lo hi).2.1 ≤ pe m ∧ (q_number m p lo hi).2.2 = skB m p := by
  have h1 := l_number_le (b := skB m p) (lo := lo) (hi := hi) hG (pe m - skB m p) (Int32.ofNat 0) (skB m p) (skB_le hG h).2
  exact ⟨h1.1, h1.2, rfl⟩
theorem passes_le {m : Nat → Nat → Int32} {p c : Nat} (hG : PG m) (h : p ≤ pe m) : (q_passesSign m p c).2.1 ≤ pe m ∧ (q_passesSign m p c).2.2 ≤ (q_passesSign m p c).2.1 := by
  have h1 := skB_le hG h
  have := hG.2
  unfold q_passesSign
  cases h2 : zc1 .ne (q_isAt m (skB m p) (Int32.ofNat c) (Int32.ofNat c)) with
  | true =>
    have : skB m p < pe m := by
      apply Nat.lt_of_not_le
      intro hle
      rw [isAt_out hG (by omega) hle] at h2
      cases h2
    show skB m p + 1 ≤ pe m ∧ skB m p ≤ skB m p + 1
    omega
  | false => exact ⟨h1.2, Nat.le_refl _⟩
noncomputable def q_readTo (m : Nat → Nat → Int32) (W : Nat → Int32) (p : Nat) (k : Nat) (lo : Int32) (hi : Int32) : Int32 × (Nat → Int32) × Nat × Nat := (bif zc2 .eq (q_number m p lo hi).1 (-1) then ((Int32.ofNat 0), W, (q_number m p lo hi).2.1, (q_number m p lo hi).2.2) else ((Int32.ofNat 1), (upd W k ((q_number m p lo hi).1)), (q_number m p lo hi).2.1, (q_number m p lo hi).2.2))
theorem p_readTo {σ : Nat → Nat × (Nat → Int32)} {yy : (Nat → Nat → Int64) × Bool × Nat × Nat} {m : Nat → Nat → Int32} {W : Nat → Int32} {p b : Nat} {k : Nat} {lo : Int32} {hi : Int32} {d : Nat} (hd : 4 ≤ d + 1) (hG : PG m) (hp : p ≤ pe m) (hk : k < 788) : zEv σ (d + 1) 1850 0 [some (.ref 137), some (.int (Int32.ofNat k)), some (.int lo), some (.int hi), none] [] (zS1, zrow (TP m p b) 138 W, yy) (.inl (some (.int (q_readTo m W p k lo hi).1))) (zS1, zrow (TP m ((q_readTo m W p k lo hi).2.2.1) ((q_readTo m W p k lo hi).2.2.2)) 138 ((q_readTo m W p k lo hi).2.1), yy) := by
  refine zeP rfl rfl ?_
  refine zeP rfl rfl ?_
  refine zeP rfl rfl ?_
  refine zeCF rfl rfl rfl rfl rfl rfl (c_number (lo := lo) (hi := hi) (m := m) (W := W) (p := p) (b := b) hG hp) (by omega) ?_
  dsimp only [Option.toList, List.cons_append, List.nil_append]
  refine zeP rfl rfl ?_
  refine zeP rfl rfl ?_
  refine zeK (v := -1) rfl rfl rfl ?_
  refine zeB2 rfl rfl (fun h1 => ?_) (fun h1 => ?_)
  · refine zeP rfl rfl ?_
    refine zeK (v := -1) rfl rfl rfl ?_
    refine zeT2 rfl rfl h1 ?_
    refine zeKn (c := 0) rfl rfl rfl ?_
    exact zeRe rfl rfl rfl rfl (by simp only [q_readTo, h1, cond_true, cond_false] <;> rfl) (by simp only [q_readTo, h1, cond_true, cond_false] <;> rfl)
  · refine zeP rfl rfl ?_
    refine zeGR rfl rfl zS137 rfl rfl ?_
    refine zeP rfl rfl ?_
    refine zeP rfl rfl ?_
    refine zeWS (k := k) rfl (by omega) ?_
    refine zeP rfl rfl ?_
    refine zeK (v := -1) rfl rfl rfl ?_
    refine zeF2 rfl rfl h1 ?_
    refine zeKn (c := 1) rfl rfl rfl ?_
    refine zeP rfl rfl ?_
    exact zeRe rfl rfl rfl rfl (by simp only [q_readTo, h1, cond_true, cond_false] <;> rfl) (by simp only [q_readTo, h1, cond_true, cond_false] <;> rfl)
theorem c_readTo {σ : Nat → Nat × (Nat → Int32)} {yy : (Nat → Nat → Int64) × Bool × Nat × Nat} {m : Nat → Nat → Int32} {W : Nat → Int32} {p b : Nat} {k : Nat} {lo : Int32} {hi : Int32} (hG : PG m) (hp : p ≤ pe m) (hk : k < 788) : zF σ 4 1850 [.ref 137, .int (Int32.ofNat k), .int lo, .int hi] (zS1, zrow (TP m p b) 138 W, yy) (.inl (some (.int (q_readTo m W p k lo hi).1))) (zS1, zrow (TP m ((q_readTo m W p k lo hi).2.2.1) ((q_readTo m W p k lo hi).2.2.2)) 138 ((q_readTo m W p k lo hi).2.1), yy) := by
  intro d hd
  obtain ⟨d, rfl⟩ : ∃ k, d = k + 1 := ⟨d - 1, by omega⟩
  exact p_readTo hd hG hp hk
theorem readTo_le {m : Nat → Nat → Int32} {W : Nat → Int32} {p k : Nat} {lo hi : Int32} (hG : PG m) (h : p ≤ pe m) : (q_readTo m W p k lo hi).2.2.1 ≤ pe m ∧ (q_readTo m W p k lo hi).2.2.2 ≤ (q_readTo m W p k lo hi).2.2.1 ∧ ((q_readTo m W p k lo hi).1 = 0 ∨ (q_readTo m W p k lo hi).1 = 1) := by
  obtain ⟨h1, h2, h3⟩ := number_le (lo := lo) (hi := hi) hG h
  unfold q_readTo
  cases zc2 .eq (q_number m p lo hi).1 (-1) with
  | true => exact ⟨h2, by rw [← h3] at h1; exact h1, Or.inl rfl⟩
  | false => exact ⟨h2, by rw [← h3] at h1; exact h1, Or.inr rfl⟩
theorem readTo_ne {m : Nat → Nat → Int32} {W : Nat → Int32} {p k c : Nat} {lo hi : Int32} (h : c ≠ k) : (q_readTo m W p k lo hi).2.1 c = W c := by
  unfold q_readTo
  cases zc2 .eq (q_number m p lo hi).1 (-1) with
  | true => rfl
  | false => exact upd_ne W _ h
theorem l_number_v {m : Nat → Nat → Int32} {b : Nat} {lo hi : Int32} : ∀ n v p, (l_number m b lo hi n v p).1 = -1 ∨ (lo ≤ (l_number m b lo hi n v p).1 ∧ (l_number m b lo hi n v p).1 ≤ hi) := by
  have e : ∀ (p : Nat) (v : Int32) (c1 c2 : Bool), (bif c1 then ((-1 : Int32), p) else bif c2 then (-1, p) else bif zc2 .lt v lo then (-1, p) else bif zc2 .le v hi then (v, p) else (-1, p)).1 = -1 ∨ (lo ≤ (bif c1 then ((-1 : Int32), p) else bif c2 then (-1, p) else bif zc2 .lt v lo then (-1, p) else bif zc2 .le v hi then (v, p) else (-1, p)).1 ∧ (bif c1 then ((-1 : Int32), p) else bif c2 then (-1, p) else bif zc2 .lt v lo then (-1, p) else bif zc2 .le v hi then (v, p) else (-1, p)).1 ≤ hi) := by
    intro p v c1 c2
    cases c1 with
    | true => exact Or.inl rfl
    | false =>
    cases c2 with
    | true => exact Or.inl rfl
    | false =>
    cases h3 : zc2 .lt v lo with
    | true => exact Or.inl rfl
    | false =>
    cases h4 : zc2 .le v hi with
    | false => exact Or.inl rfl
    | true => exact Or.inr ⟨Int32.not_lt.mp (of_decide_eq_false h3), of_decide_eq_true h4⟩
  intro n
  induction n with
  | zero =>
    intro v p
    unfold l_number
    exact e p v _ _
  | succ n ih =>
    intro v p
    unfold l_number
    cases zc1 .eq (q_isAt m p (Int32.ofNat 48) (Int32.ofNat 57)) with
    | true => exact e p v _ _
    | false =>
      rw [cond_false]
      cases zc2 .ge (Int32.ofNat (p - b)) (Int32.ofNat 4) with
      | true => exact ih _ _
      | false => exact ih _ _
theorem nat_btw {x : Int32} {a c : Nat} (hc : c ≤ 100000) (ha : a ≤ 100000) (h1 : Int32.ofNat a ≤ x) (h2 : x ≤ Int32.ofNat c) : x = Int32.ofNat x.toNatClampNeg ∧ x.toNatClampNeg ≤ c ∧ a ≤ x.toNatClampNeg := by
  rw [Int32.le_iff_toInt_le, zoN (by omega)] at h1 h2
  have h3 : x.toNatClampNeg = x.toInt.toNat := rfl
  refine ⟨?_, by omega, by omega⟩
  apply Int32.toInt_inj.mp
  rw [zoN (by omega), h3]
  omega
theorem number_k {m : Nat → Nat → Int32} {p a c : Nat} (hc : c ≤ 100000) (ha : a ≤ 100000) (h : ¬ (q_number m p (Int32.ofNat a) (Int32.ofNat c)).1 = -1) : (q_number m p (Int32.ofNat a) (Int32.ofNat c)).1 = Int32.ofNat (q_number m p (Int32.ofNat a) (Int32.ofNat c)).1.toNatClampNeg ∧ (q_number m p (Int32.ofNat a) (Int32.ofNat c)).1.toNatClampNeg ≤ c ∧ a ≤ (q_number m p (Int32.ofNat a) (Int32.ofNat c)).1.toNatClampNeg := by
  rcases l_number_v (m := m) (b := skB m p) (lo := Int32.ofNat a) (hi := Int32.ofNat c) (pe m - skB m p) (Int32.ofNat 0) (skB m p) with h1 | ⟨h1, h2⟩
  · exact absurd h1 h
  · exact nat_btw hc ha h1 h2
theorem zne_t {x y : Int32} (h : zc2 .ne x y = true) : ¬ x = y := of_decide_eq_true h
theorem zeq_f {x y : Int32} (h : zc2 .eq x y = false) : ¬ x = y := of_decide_eq_false h
theorem cnd4 {α : Type} (P : α → Prop) {c : Bool} {a b : α} (h1 : c = true → P a) (h2 : c = false → P b) : P (bif c then a else b) := by
  cases c with
  | true => exact h1 rfl
  | false => exact h2 rfl
/-- what a reading leaves: the point within the text, an answer that is 0 or 1 -/
noncomputable def RB (m : Nat → Nat → Int32) (X : Int32 × (Nat → Int32) × Nat × Nat) : Prop := X.2.2.1 ≤ pe m ∧ X.2.2.2 ≤ X.2.2.1 ∧ (X.1 = 0 ∨ X.1 = 1)
theorem RB.bif {m : Nat → Nat → Int32} {c : Bool} {X Y : Int32 × (Nat → Int32) × Nat × Nat} (h1 : RB m X) (h2 : RB m Y) : RB m (bif c then X else Y) := cnd4 (RB m) (fun _ => h1) (fun _ => h2)
theorem RB.mk {m : Nat → Nat → Int32} {v : Int32} {W : Nat → Int32} {p b : Nat} (h1 : p ≤ pe m) (h2 : b ≤ p) (h3 : v = 0 ∨ v = 1) : RB m (v, W, p, b) := ⟨h1, h2, h3⟩
theorem RB.eta {m : Nat → Nat → Int32} {X : Int32 × (Nat → Int32) × Nat × Nat} (h : RB m X) : RB m (X.1, X.2.1, X.2.2.1, X.2.2.2) := h
noncomputable def q_kindHere (m : Nat → Nat → Int32) (p : Nat) (b : Nat) : Int32 := (bif zc1 .eq (q_isWord m p b 5) then (bif zc1 .eq (q_isWord m p b 6) then (bif zc1 .eq (q_isWord m p b 7) then (bif zc1 .eq (q_isWord m p b 8) then (bif zc1 .eq (q_isWord m p b 9) then (bif zc1 .eq (q_isWord m p b 10) then (bif zc1 .eq (q_isWord m p b 11) then (bif zc1 .eq (q_isWord m p b 12) then (-1) else (Int32.ofNat 7)) else (Int32.ofNat 6)) else (Int32.ofNat 5)) else (Int32.ofNat 4)) else (Int32.ofNat 3)) else (Int32.ofNat 2)) else (Int32.ofNat 1)) else (Int32.ofNat 0))
theorem p_kindHere {σ : Nat → Nat × (Nat → Int32)} {yy : (Nat → Nat → Int64) × Bool × Nat × Nat} {m : Nat → Nat → Int32} {W : Nat → Int32} {p b : Nat} {d : Nat} (hd : 2 ≤ d + 1) (hG : PG m) (hbp : b ≤ p) (hp : p ≤ 400) : zEv σ (d + 1) 1851 0 [some (.ref 137)] [] (zS1, zrow (TP m p b) 138 W, yy) (.inl (some (.int (q_kindHere m p b)))) (zS1, zrow (TP m p b) 138 W, yy) := by
  refine zeP rfl rfl ?_
  refine zeS rfl rfl rfl ?_
  refine zeCF rfl rfl rfl rfl rfl rfl (c_isWord (s := 5) (m := m) (W := W) (p := p) (b := b) hG (by decide) hbp hp) (by omega) ?_
  dsimp only [Option.toList, List.cons_append, List.nil_append]
  refine zeB1 rfl rfl (fun h1 => ?_) (fun h1 => ?_)
  · refine zeP rfl rfl ?_
    refine zeS rfl rfl rfl ?_
    refine zeCF rfl rfl rfl rfl rfl rfl (c_isWord (s := 6) (m := m) (W := W) (p := p) (b := b) hG (by decide) hbp hp) (by omega) ?_
    dsimp only [Option.toList, List.cons_append, List.nil_append]
    refine zeB1 rfl rfl (fun h2 => ?_) (fun h2 => ?_)
    · refine zeP rfl rfl ?_
      refine zeS rfl rfl rfl ?_
      refine zeCF rfl rfl rfl rfl rfl rfl (c_isWord (s := 7) (m := m) (W := W) (p := p) (b := b) hG (by decide) hbp hp) (by omega) ?_
      dsimp only [Option.toList, List.cons_append, List.nil_append]
      refine zeB1 rfl rfl (fun h3 => ?_) (fun h3 => ?_)
      · refine zeP rfl rfl ?_
        refine zeS rfl rfl rfl ?_
        refine zeCF rfl rfl rfl rfl rfl rfl (c_isWord (s := 8) (m := m) (W := W) (p := p) (b := b) hG (by decide) hbp hp) (by omega) ?_
        dsimp only [Option.toList, List.cons_append, List.nil_append]
        refine zeB1 rfl rfl (fun h4 => ?_) (fun h4 => ?_)
        · refine zeP rfl rfl ?_
          refine zeS rfl rfl rfl ?_
          refine zeCF rfl rfl rfl rfl rfl rfl (c_isWord (s := 9) (m := m) (W := W) (p := p) (b := b) hG (by decide) hbp hp) (by omega) ?_
          dsimp only [Option.toList, List.cons_append, List.nil_append]
          refine zeB1 rfl rfl (fun h5 => ?_) (fun h5 => ?_)
          · refine zeP rfl rfl ?_
            refine zeS rfl rfl rfl ?_
            refine zeCF rfl rfl rfl rfl rfl rfl (c_isWord (s := 10) (m := m) (W := W) (p := p) (b := b) hG (by decide) hbp hp) (by omega) ?_
            dsimp only [Option.toList, List.cons_append, List.nil_append]
            refine zeB1 rfl rfl (fun h6 => ?_) (fun h6 => ?_)
            · refine zeP rfl rfl ?_
              refine zeS rfl rfl rfl ?_
              refine zeCF rfl rfl rfl rfl rfl rfl (c_isWord (s := 11) (m := m) (W := W) (p := p) (b := b) hG (by decide) hbp hp) (by omega) ?_
              dsimp only [Option.toList, List.cons_append, List.nil_append]
              refine zeB1 rfl rfl (fun h7 => ?_) (fun h7 => ?_)
              · refine zeP rfl rfl ?_
                refine zeS rfl rfl rfl ?_
                refine zeCF rfl rfl rfl rfl rfl rfl (c_isWord (s := 12) (m := m) (W := W) (p := p) (b := b) hG (by decide) hbp hp) (by omega) ?_
                dsimp only [Option.toList, List.cons_append, List.nil_append]
                refine zeB1 rfl rfl (fun h8 => ?_) (fun h8 => ?_)
                · refine zeK (v := -1) rfl rfl rfl ?_
                  exact zeRe rfl rfl rfl rfl (by simp only [q_kindHere, h1, h2, h3, h4, h5, h6, h7, h8, cond_true, cond_false] <;> rfl) (by simp only [q_kindHere, h1, h2, h3, h4, h5, h6, h7, h8, cond_true, cond_false] <;> rfl)
                · refine zeKn (c := 7) rfl rfl rfl ?_
                  refine zeP rfl rfl ?_
                  exact zeRe rfl rfl rfl rfl (by simp only [q_kindHere, h1, h2, h3, h4, h5, h6, h7, h8, cond_true, cond_false] <;> rfl) (by simp only [q_kindHere, h1, h2, h3, h4, h5, h6, h7, h8, cond_true, cond_false] <;> rfl)
              · refine zeKn (c := 6) rfl rfl rfl ?_
                exact zeRe rfl rfl rfl rfl (by simp only [q_kindHere, h1, h2, h3, h4, h5, h6, h7, cond_true, cond_false] <;> rfl) (by simp only [q_kindHere, h1, h2, h3, h4, h5, h6, h7, cond_true, cond_false] <;> rfl)
            · refine zeKn (c := 5) rfl rfl rfl ?_
              exact zeRe rfl rfl rfl rfl (by simp only [q_kindHere, h1, h2, h3, h4, h5, h6, cond_true, cond_false] <;> rfl) (by simp only [q_kindHere, h1, h2, h3, h4, h5, h6, cond_true, cond_false] <;> rfl)
          · refine zeKn (c := 4) rfl rfl rfl ?_
            exact zeRe rfl rfl rfl rfl (by simp only [q_kindHere, h1, h2, h3, h4, h5, cond_true, cond_false] <;> rfl) (by simp only [q_kindHere, h1, h2, h3, h4, h5, cond_true, cond_false] <;> rfl)
        · refine zeKn (c := 3) rfl rfl rfl ?_
          exact zeRe rfl rfl rfl rfl (by simp only [q_kindHere, h1, h2, h3, h4, cond_true, cond_false] <;> rfl) (by simp only [q_kindHere, h1, h2, h3, h4, cond_true, cond_false] <;> rfl)
      · refine zeKn (c := 2) rfl rfl rfl ?_
        exact zeRe rfl rfl rfl rfl (by simp only [q_kindHere, h1, h2, h3, cond_true, cond_false] <;> rfl) (by simp only [q_kindHere, h1, h2, h3, cond_true, cond_false] <;> rfl)
    · refine zeKn (c := 1) rfl rfl rfl ?_
      exact zeRe rfl rfl rfl rfl (by simp only [q_kindHere, h1, h2, cond_true, cond_false] <;> rfl) (by simp only [q_kindHere, h1, h2, cond_true, cond_false] <;> rfl)
  · refine zeKn (c := 0) rfl rfl rfl ?_
    exact zeRe rfl rfl rfl rfl (by simp only [q_kindHere, h1, cond_true, cond_false] <;> rfl) (by simp only [q_kindHere, h1, cond_true, cond_false] <;> rfl)
theorem c_kindHere {σ : Nat → Nat × (Nat → Int32)} {yy : (Nat → Nat → Int64) × Bool × Nat × Nat} {m : Nat → Nat → Int32} {W : Nat → Int32} {p b : Nat} (hG : PG m) (hbp : b ≤ p) (hp : p ≤ 400) : zF σ 2 1851 [.ref 137] (zS1, zrow (TP m p b) 138 W, yy) (.inl (some (.int (q_kindHere m p b)))) (zS1, zrow (TP m p b) 138 W, yy) := by
  intro d hd
  obtain ⟨d, rfl⟩ : ∃ k, d = k + 1 := ⟨d - 1, by omega⟩
  exact p_kindHere hd hG hbp hp
theorem kindHere_v (m : Nat → Nat → Int32) (p b : Nat) : q_kindHere m p b = -1 ∨ (q_kindHere m p b = Int32.ofNat (q_kindHere m p b).toNatClampNeg ∧ (q_kindHere m p b).toNatClampNeg ≤ 7) := by
  unfold q_kindHere
  cases zc1 .eq (q_isWord m p b 5) with
  | false => (dsimp only [cond_true, cond_false]; exact Or.inr ⟨by decide, by decide⟩)
  | true =>
    cases zc1 .eq (q_isWord m p b 6) with
    | false => (dsimp only [cond_true, cond_false]; exact Or.inr ⟨by decide, by decide⟩)
    | true =>
      cases zc1 .eq (q_isWord m p b 7) with
      | false => (dsimp only [cond_true, cond_false]; exact Or.inr ⟨by decide, by decide⟩)
      | true =>
        cases zc1 .eq (q_isWord m p b 8) with
        | false => (dsimp only [cond_true, cond_false]; exact Or.inr ⟨by decide, by decide⟩)
        | true =>
          cases zc1 .eq (q_isWord m p b 9) with
          | false => (dsimp only [cond_true, cond_false]; exact Or.inr ⟨by decide, by decide⟩)
          | true =>
            cases zc1 .eq (q_isWord m p b 10) with
            | false => (dsimp only [cond_true, cond_false]; exact Or.inr ⟨by decide, by decide⟩)
            | true =>
              cases zc1 .eq (q_isWord m p b 11) with
              | false => (dsimp only [cond_true, cond_false]; exact Or.inr ⟨by decide, by decide⟩)
              | true =>
                cases zc1 .eq (q_isWord m p b 12) with
                | false => (dsimp only [cond_true, cond_false]; exact Or.inr ⟨by decide, by decide⟩)
                | true =>
                  (dsimp only [cond_true, cond_false]; exact Or.inl rfl)
noncomputable def q_termHere (m : Nat → Nat → Int32) (p : Nat) (b : Nat) : Int32 := (bif zc1 .eq (q_isWord m p b 14) then (bif zc1 .eq (q_isWord m p b 15) then (bif zc1 .eq (q_isWord m p b 16) then (bif zc1 .eq (q_isWord m p b 17) then (bif zc1 .eq (q_isWord m p b 18) then (bif zc1 .eq (q_isWord m p b 19) then (bif zc1 .eq (q_isWord m p b 20) then (-1) else (Int32.ofNat 7)) else (Int32.ofNat 6)) else (Int32.ofNat 5)) else (Int32.ofNat 4)) else (Int32.ofNat 3)) else (Int32.ofNat 2)) else (Int32.ofNat 1))
theorem p_termHere {σ : Nat → Nat × (Nat → Int32)} {yy : (Nat → Nat → Int64) × Bool × Nat × Nat} {m : Nat → Nat → Int32} {W : Nat → Int32} {p b : Nat} {d : Nat} (hd : 2 ≤ d + 1) (hG : PG m) (hbp : b ≤ p) (hp : p ≤ 400) : zEv σ (d + 1) 1859 0 [some (.ref 137)] [] (zS1, zrow (TP m p b) 138 W, yy) (.inl (some (.int (q_termHere m p b)))) (zS1, zrow (TP m p b) 138 W, yy) := by
  refine zeP rfl rfl ?_
  refine zeS rfl rfl rfl ?_
  refine zeCF rfl rfl rfl rfl rfl rfl (c_isWord (s := 14) (m := m) (W := W) (p := p) (b := b) hG (by decide) hbp hp) (by omega) ?_
  dsimp only [Option.toList, List.cons_append, List.nil_append]
  refine zeB1 rfl rfl (fun h1 => ?_) (fun h1 => ?_)
  · refine zeP rfl rfl ?_
    refine zeS rfl rfl rfl ?_
    refine zeCF rfl rfl rfl rfl rfl rfl (c_isWord (s := 15) (m := m) (W := W) (p := p) (b := b) hG (by decide) hbp hp) (by omega) ?_
    dsimp only [Option.toList, List.cons_append, List.nil_append]
    refine zeB1 rfl rfl (fun h2 => ?_) (fun h2 => ?_)
    · refine zeP rfl rfl ?_
      refine zeS rfl rfl rfl ?_
      refine zeCF rfl rfl rfl rfl rfl rfl (c_isWord (s := 16) (m := m) (W := W) (p := p) (b := b) hG (by decide) hbp hp) (by omega) ?_
      dsimp only [Option.toList, List.cons_append, List.nil_append]
      refine zeB1 rfl rfl (fun h3 => ?_) (fun h3 => ?_)
      · refine zeP rfl rfl ?_
        refine zeS rfl rfl rfl ?_
        refine zeCF rfl rfl rfl rfl rfl rfl (c_isWord (s := 17) (m := m) (W := W) (p := p) (b := b) hG (by decide) hbp hp) (by omega) ?_
        dsimp only [Option.toList, List.cons_append, List.nil_append]
        refine zeB1 rfl rfl (fun h4 => ?_) (fun h4 => ?_)
        · refine zeP rfl rfl ?_
          refine zeS rfl rfl rfl ?_
          refine zeCF rfl rfl rfl rfl rfl rfl (c_isWord (s := 18) (m := m) (W := W) (p := p) (b := b) hG (by decide) hbp hp) (by omega) ?_
          dsimp only [Option.toList, List.cons_append, List.nil_append]
          refine zeB1 rfl rfl (fun h5 => ?_) (fun h5 => ?_)
          · refine zeP rfl rfl ?_
            refine zeS rfl rfl rfl ?_
            refine zeCF rfl rfl rfl rfl rfl rfl (c_isWord (s := 19) (m := m) (W := W) (p := p) (b := b) hG (by decide) hbp hp) (by omega) ?_
            dsimp only [Option.toList, List.cons_append, List.nil_append]
            refine zeB1 rfl rfl (fun h6 => ?_) (fun h6 => ?_)
            · refine zeP rfl rfl ?_
              refine zeS rfl rfl rfl ?_
              refine zeCF rfl rfl rfl rfl rfl rfl (c_isWord (s := 20) (m := m) (W := W) (p := p) (b := b) hG (by decide) hbp hp) (by omega) ?_
              dsimp only [Option.toList, List.cons_append, List.nil_append]
              refine zeB1 rfl rfl (fun h7 => ?_) (fun h7 => ?_)
              · refine zeK (v := -1) rfl rfl rfl ?_
                exact zeRe rfl rfl rfl rfl (by simp only [q_termHere, h1, h2, h3, h4, h5, h6, h7, cond_true, cond_false] <;> rfl) (by simp only [q_termHere, h1, h2, h3, h4, h5, h6, h7, cond_true, cond_false] <;> rfl)
              · refine zeKn (c := 7) rfl rfl rfl ?_
                refine zeP rfl rfl ?_
                exact zeRe rfl rfl rfl rfl (by simp only [q_termHere, h1, h2, h3, h4, h5, h6, h7, cond_true, cond_false] <;> rfl) (by simp only [q_termHere, h1, h2, h3, h4, h5, h6, h7, cond_true, cond_false] <;> rfl)
            · refine zeKn (c := 6) rfl rfl rfl ?_
              exact zeRe rfl rfl rfl rfl (by simp only [q_termHere, h1, h2, h3, h4, h5, h6, cond_true, cond_false] <;> rfl) (by simp only [q_termHere, h1, h2, h3, h4, h5, h6, cond_true, cond_false] <;> rfl)
          · refine zeKn (c := 5) rfl rfl rfl ?_
            exact zeRe rfl rfl rfl rfl (by simp only [q_termHere, h1, h2, h3, h4, h5, cond_true, cond_false] <;> rfl) (by simp only [q_termHere, h1, h2, h3, h4, h5, cond_true, cond_false] <;> rfl)
        · refine zeKn (c := 4) rfl rfl rfl ?_
          exact zeRe rfl rfl rfl rfl (by simp only [q_termHere, h1, h2, h3, h4, cond_true, cond_false] <;> rfl) (by simp only [q_termHere, h1, h2, h3, h4, cond_true, cond_false] <;> rfl)
      · refine zeKn (c := 3) rfl rfl rfl ?_
        exact zeRe rfl rfl rfl rfl (by simp only [q_termHere, h1, h2, h3, cond_true, cond_false] <;> rfl) (by simp only [q_termHere, h1, h2, h3, cond_true, cond_false] <;> rfl)
    · refine zeKn (c := 2) rfl rfl rfl ?_
      exact zeRe rfl rfl rfl rfl (by simp only [q_termHere, h1, h2, cond_true, cond_false] <;> rfl) (by simp only [q_termHere, h1, h2, cond_true, cond_false] <;> rfl)
  · refine zeKn (c := 1) rfl rfl rfl ?_
    exact zeRe rfl rfl rfl rfl (by simp only [q_termHere, h1, cond_true, cond_false] <;> rfl) (by simp only [q_termHere, h1, cond_true, cond_false] <;> rfl)
theorem c_termHere {σ : Nat → Nat × (Nat → Int32)} {yy : (Nat → Nat → Int64) × Bool × Nat × Nat} {m : Nat → Nat → Int32} {W : Nat → Int32} {p b : Nat} (hG : PG m) (hbp : b ≤ p) (hp : p ≤ 400) : zF σ 2 1859 [.ref 137] (zS1, zrow (TP m p b) 138 W, yy) (.inl (some (.int (q_termHere m p b)))) (zS1, zrow (TP m p b) 138 W, yy) := by
  intro d hd
  obtain ⟨d, rfl⟩ : ∃ k, d = k + 1 := ⟨d - 1, by omega⟩
  exact p_termHere hd hG hbp hp
theorem termHere_v (m : Nat → Nat → Int32) (p b : Nat) : q_termHere m p b = -1 ∨ (q_termHere m p b = Int32.ofNat (q_termHere m p b).toNatClampNeg ∧ (q_termHere m p b).toNatClampNeg ≤ 7 ∧ 1 ≤ (q_termHere m p b).toNatClampNeg) := by
  unfold q_termHere
  cases zc1 .eq (q_isWord m p b 14) with
  | false => (dsimp only [cond_true, cond_false]; exact Or.inr ⟨by decide, by decide, by decide⟩)
  | true =>
    cases zc1 .eq (q_isWord m p b 15) with
    | false => (dsimp only [cond_true, cond_false]; exact Or.inr ⟨by decide, by decide, by decide⟩)
    | true =>
      cases zc1 .eq (q_isWord m p b 16) with
      | false => (dsimp only [cond_true, cond_false]; exact Or.inr ⟨by decide, by decide, by decide⟩)
      | true =>
        cases zc1 .eq (q_isWord m p b 17) with
        | false => (dsimp only [cond_true, cond_false]; exact Or.inr ⟨by decide, by decide, by decide⟩)
        | true =>
          cases zc1 .eq (q_isWord m p b 18) with
          | false => (dsimp only [cond_true, cond_false]; exact Or.inr ⟨by decide, by decide, by decide⟩)
          | true =>
            cases zc1 .eq (q_isWord m p b 19) with
            | false => (dsimp only [cond_true, cond_false]; exact Or.inr ⟨by decide, by decide, by decide⟩)
            | true =>
              cases zc1 .eq (q_isWord m p b 20) with
              | false => (dsimp only [cond_true, cond_false]; exact Or.inr ⟨by decide, by decide, by decide⟩)
              | true =>
                (dsimp only [cond_true, cond_false]; exact Or.inl rfl)
theorem kindHere_k {m : Nat → Nat → Int32} {p b : Nat} (h : zc2 .eq (q_kindHere m p b) (-1) = false) : q_kindHere m p b = Int32.ofNat (q_kindHere m p b).toNatClampNeg ∧ (q_kindHere m p b).toNatClampNeg ≤ 7 := by
  rcases kindHere_v m p b with h1 | h1
  · exact absurd h1 (of_decide_eq_false h)
  · exact h1
theorem termHere_k {m : Nat → Nat → Int32} {p b : Nat} (h : zc2 .eq (q_termHere m p b) (-1) = false) : q_termHere m p b = Int32.ofNat (q_termHere m p b).toNatClampNeg ∧ (q_termHere m p b).toNatClampNeg ≤ 7 ∧ 1 ≤ (q_termHere m p b).toNatClampNeg := by
  rcases termHere_v m p b with h1 | h1
  · exact absurd h1 (of_decide_eq_false h)
  · exact h1
theorem letters_le {m : Nat → Nat → Int32} {p : Nat} (hG : PG m) (h : p ≤ pe m) : (q_letters m p).1 ≤ pe m ∧ (q_letters m p).2 ≤ (q_letters m p).1 := ⟨(skL_le hG h).2, (skL_le hG h).1⟩
theorem tne_t {a b : Nat} (h : zc2 .ne (Int32.ofNat a) (Int32.ofNat b) = true) : a ≠ b := by
  intro e
  subst e
  exact absurd rfl (of_decide_eq_true h)
end
