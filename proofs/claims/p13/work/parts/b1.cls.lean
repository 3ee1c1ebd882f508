section ZHB
variable {σ : Nat → Nat × (Nat → Int32)} {d : Nat} {lv : zLv} {st : List Value} {M M' : zMem} {o : zO}
theorem zeHB {K : Nat} (h2 : 2 ≤ K) (h7 : K ≤ 7) (k : zEv σ d 1208 50 lv st M o M') : zEv σ d 1208 13 lv (.int (Int32.ofNat K) :: st) M o M' := by
  match K, h2, h7 with
  | 2, _, _ => exact zeP rfl rfl k
  | 3, _, _ => exact zeP rfl rfl k
  | 4, _, _ => exact zeP rfl rfl k
  | 5, _, _ => exact zeP rfl rfl k
  | 6, _, _ => exact zeP rfl rfl k
  | 7, _, _ => exact zeP rfl rfl k
  | n + 8, _, h => exact absurd h (by omega)
end ZHB
noncomputable def x_heldBehind (m : Nat → Nat → Int32) (b : Nat) (t : Nat) (p : Nat) (h : Int32) : Int32 := (bif Nat.beq ((mv m (b + 11 + 7 * t) p)) 0 then (h ||| ((Int32.ofNat 1) <<< ((x_numberAt m b t p) &&& 31))) else (bif Nat.beq ((mv m (b + 11 + 7 * t) p)) 1 then (h &&& (((Int32.ofNat 1) <<< ((x_numberAt m b t p) &&& 31)) ^^^ (-1))) else h))
theorem xp_heldBehind {σ : Nat → Nat × (Nat → Int32)} {yy : (Nat → Nat → Int64) × Bool × Nat × Nat} {m : Nat → Nat → Int32} {b : Nat} {t : Nat} {p : Nat} {h : Int32} {d : Nat} (hd : 2 ≤ d + 1) (hb : BB b) (ht : t < 4) (hp : p < 24) (hD : DT m b t) : zEv σ (d + 1) 1208 0 [some (.ref (b + 10 + 7 * t)), some (.int (Int32.ofNat p)), some (.int h), none] [] (zS1, m, yy) (.inl (some (.int (x_heldBehind m b t p h)))) (zS1, m, yy) := by
  refine zeKn (c := 1) rfl rfl rfl ?_
  refine zeP rfl rfl ?_
  refine zeP rfl rfl ?_
  refine zeCV rfl rfl rfl rfl (shS hb (by omega)) rfl (xc_numberAt (m := m) (b := b) (t := t) (p := p) hb ht hp) (by omega) ?_
  dsimp only [Option.toList, List.cons_append, List.nil_append]
  refine zeP rfl rfl ?_
  refine zeP rfl rfl ?_
  refine zeP rfl rfl ?_
  refine zeP rfl rfl ?_
  refine zeCV rfl rfl rfl rfl (shS hb (by omega)) rfl (xc_kindAt (m := m) (b := b) (t := t) (p := p) hb ht hp) (by omega) ?_
  dsimp only [Option.toList, List.cons_append, List.nil_append]
  rw [(show x_kindAt m b t p = Int32.ofNat (mv m (b + 11 + 7 * t) p) from (hD.2.2.2.2 p (by omega)).1.1)]
  cases h1 : Nat.beq ((mv m (b + 11 + 7 * t) p)) 0 with
  | true =>
    refine zeSw (K := 0) rfl (by rw [Nat.eq_of_beq_eq_true h1]) rfl ?_
    refine zeP rfl rfl ?_
    refine zeP rfl rfl ?_
    refine zeP rfl rfl ?_
    exact zeRe rfl rfl rfl rfl (by simp only [x_heldBehind, h1, cond_true, cond_false] <;> rfl) (by simp only [x_heldBehind, h1, cond_true, cond_false] <;> rfl)
  | false =>
    cases h2 : Nat.beq ((mv m (b + 11 + 7 * t) p)) 1 with
    | true =>
      refine zeSw (K := 1) rfl (by rw [Nat.eq_of_beq_eq_true h2]) rfl ?_
      refine zeP rfl rfl ?_
      refine zeP rfl rfl ?_
      refine zeK (v := -1) rfl rfl rfl ?_
      refine zeP rfl rfl ?_
      refine zeP rfl rfl ?_
      exact zeRe rfl rfl rfl rfl (by simp only [x_heldBehind, h1, h2, cond_true, cond_false] <;> rfl) (by simp only [x_heldBehind, h1, h2, cond_true, cond_false] <;> rfl)
    | false =>
      refine zeHB (by have e0 := Nat.ne_of_beq_eq_false h1; have e1 := Nat.ne_of_beq_eq_false h2; omega) (hD.2.2.2.2 p hp).1.2 ?_
      refine zeP rfl rfl ?_
      exact zeRe rfl rfl rfl rfl (by simp only [x_heldBehind, h1, h2, cond_true, cond_false] <;> rfl) (by simp only [x_heldBehind, h1, h2, cond_true, cond_false] <;> rfl)
theorem xc_heldBehind {σ : Nat → Nat × (Nat → Int32)} {yy : (Nat → Nat → Int64) × Bool × Nat × Nat} {m : Nat → Nat → Int32} {b : Nat} {t : Nat} {p : Nat} {h : Int32} (hb : BB b) (ht : t < 4) (hp : p < 24) (hD : DT m b t) : zF σ 2 1208 [.ref (b + 10 + 7 * t), .int (Int32.ofNat p), .int h] (zS1, m, yy) (.inl (some (.int (x_heldBehind m b t p h)))) (zS1, m, yy) := by
  intro d hd
  obtain ⟨d, rfl⟩ : ∃ k, d = k + 1 := ⟨d - 1, by omega⟩
  exact xp_heldBehind hd hb ht hp hD
noncomputable def xl_mostHeld (m : Nat → Nat → Int32) (b : Nat) (t : Nat) : Nat → Int32 → Int32 → Nat → Int32
  | 0, a, h, k => a
  | n + 1, a, h, k => (xl_mostHeld m b t n ((if a < (x_bitCount ((x_heldBehind m b t k h))) then (x_bitCount ((x_heldBehind m b t k h))) else a)) ((x_heldBehind m b t k h)) ((k + 1)))
theorem xw_mostHeld {σ : Nat → Nat × (Nat → Int32)} {yy : (Nat → Nat → Int64) × Bool × Nat × Nat} {m : Nat → Nat → Int32} {b : Nat} {t : Nat} {d : Nat} (hd : 3 ≤ d + 1) (hb : BB b) (ht : t < 4) (hD : DT m b t) (h24 : mv m (b + 10 + 7 * t) 2 ≤ 24) : ∀ (n : Nat) (a : Int32) (h : Int32) (k : Nat), k + n = mv m (b + 10 + 7 * t) 2 → zEv σ (d + 1) 1209 6 [some (.ref (b + 10 + 7 * t)), some (.int a), some (.int h), some (.int (Int32.ofNat k))] [] (zS1, m, yy) (.inl (some (.int (xl_mostHeld m b t n a h k)))) (zS1, m, yy) := by
  intro n
  induction n with
  | zero =>
    intro a h k hk
    refine zeP rfl rfl ?_
    refine zeP rfl rfl ?_
    refine zeGI rfl rfl (shS hb (by omega)) rfl rfl ?_
    rw [hD.1.1]
    refine zeT2 rfl rfl (zcge (by omega) (by omega) (by omega)) ?_
    refine zeP rfl rfl ?_
    exact zeRe rfl rfl rfl rfl (by rfl) (by rfl)
  | succ n ih =>
    intro a h k hk
    refine zeP rfl rfl ?_
    refine zeP rfl rfl ?_
    refine zeGI rfl rfl (shS hb (by omega)) rfl rfl ?_
    rw [hD.1.1]
    refine zeF2 rfl rfl (zcge_f (by omega) (by omega) (by omega)) ?_
    refine zeP rfl rfl ?_
    refine zeP rfl rfl ?_
    refine zeP rfl rfl ?_
    refine zeCV rfl rfl rfl rfl (shS hb (by omega)) rfl (xc_heldBehind (m := m) (b := b) (t := t) (p := k) (h := h) hb ht (by omega) hD) (by omega) ?_
    dsimp only [Option.toList, List.cons_append, List.nil_append]
    refine zeP rfl rfl ?_
    refine zeP rfl rfl ?_
    refine zeP rfl rfl ?_
    refine zeCF rfl rfl rfl rfl rfl rfl (xc_bitCount (m := m) (i := (x_heldBehind m b t k h)) ) (by omega) ?_
    dsimp only [Option.toList, List.cons_append, List.nil_append]
    refine zeM rfl rfl rfl rfl rfl rfl rfl ?_
    refine zeP rfl rfl ?_
    refine zeInc rfl rfl ?_
    refine zeP rfl rfl ?_
    simp only [xl_mostHeld, cond_true, cond_false]
    exact ih ((if a < (x_bitCount ((x_heldBehind m b t k h))) then (x_bitCount ((x_heldBehind m b t k h))) else a)) ((x_heldBehind m b t k h)) ((k + 1))   (by omega) 
noncomputable def x_mostHeld (m : Nat → Nat → Int32) (b : Nat) (t : Nat) : Int32 := (xl_mostHeld m b t ((mv m (b + 10 + 7 * t) 2)) ((Int32.ofNat 0)) ((Int32.ofNat 0)) 0)
theorem xp_mostHeld {σ : Nat → Nat × (Nat → Int32)} {yy : (Nat → Nat → Int64) × Bool × Nat × Nat} {m : Nat → Nat → Int32} {b : Nat} {t : Nat} {d : Nat} (hd : 3 ≤ d + 1) (hb : BB b) (ht : t < 4) (hD : DT m b t) : zEv σ (d + 1) 1209 0 [some (.ref (b + 10 + 7 * t)), none, none, none] [] (zS1, m, yy) (.inl (some (.int (x_mostHeld m b t)))) (zS1, m, yy) := by
  refine zeKn (c := 0) rfl rfl rfl ?_
  refine zeP rfl rfl ?_
  refine zeKn (c := 0) rfl rfl rfl ?_
  refine zeP rfl rfl ?_
  refine zeKn (c := 0) rfl rfl rfl ?_
  refine zeP rfl rfl ?_
  simp only [x_mostHeld, cond_true, cond_false]
  exact xw_mostHeld (b := b) (t := t) (m := m) (by omega) hb ht hD hD.1.2 ((mv m (b + 10 + 7 * t) 2)) ((Int32.ofNat 0)) ((Int32.ofNat 0)) (0)   (by omega) 
theorem xc_mostHeld {σ : Nat → Nat × (Nat → Int32)} {yy : (Nat → Nat → Int64) × Bool × Nat × Nat} {m : Nat → Nat → Int32} {b : Nat} {t : Nat} (hb : BB b) (ht : t < 4) (hD : DT m b t) : zF σ 3 1209 [.ref (b + 10 + 7 * t)] (zS1, m, yy) (.inl (some (.int (x_mostHeld m b t)))) (zS1, m, yy) := by
  intro d hd
  obtain ⟨d, rfl⟩ : ∃ k, d = k + 1 := ⟨d - 1, by omega⟩
  exact xp_mostHeld hd hb ht hD
noncomputable def xl_partEnd (m : Nat → Nat → Int32) (b : Nat) (t : Nat) (p : Nat) : Nat → Int32 → Nat → Int32
  | 0, h, k => (Int32.ofNat (mv m (b + 10 + 7 * t) 2))
  | n + 1, h, k => (bif zc1 .ne (x_heldBehind m b t k h) then (xl_partEnd m b t p n ((x_heldBehind m b t k h)) ((k + 1))) else (Int32.ofNat (k + 1)))
theorem xw_partEnd {σ : Nat → Nat × (Nat → Int32)} {yy : (Nat → Nat → Int64) × Bool × Nat × Nat} {m : Nat → Nat → Int32} {b : Nat} {t : Nat} {p : Nat} {d : Nat} (hd : 3 ≤ d + 1) (hb : BB b) (ht : t < 4) (hD : DT m b t) (h24 : mv m (b + 10 + 7 * t) 2 ≤ 24) : ∀ (n : Nat) (h : Int32) (k : Nat), k + n = mv m (b + 10 + 7 * t) 2 → zEv σ (d + 1) 1210 16 [some (.ref (b + 10 + 7 * t)), some (.int (Int32.ofNat p)), some (.int h), some (.int (Int32.ofNat k))] [] (zS1, m, yy) (.inl (some (.int (xl_partEnd m b t p n h k)))) (zS1, m, yy) := by
  intro n
  induction n with
  | zero =>
    intro h k hk
    refine zeP rfl rfl ?_
    refine zeP rfl rfl ?_
    refine zeGI rfl rfl (shS hb (by omega)) rfl rfl ?_
    rw [hD.1.1]
    refine zeT2 rfl rfl (zcge (by omega) (by omega) (by omega)) ?_
    refine zeP rfl rfl ?_
    refine zeGI rfl rfl (shS hb (by omega)) rfl rfl ?_
    rw [hD.1.1]
    exact zeRe rfl rfl rfl rfl (by rfl) (by rfl)
  | succ n ih =>
    intro h k hk
    refine zeP rfl rfl ?_
    refine zeP rfl rfl ?_
    refine zeGI rfl rfl (shS hb (by omega)) rfl rfl ?_
    rw [hD.1.1]
    refine zeF2 rfl rfl (zcge_f (by omega) (by omega) (by omega)) ?_
    refine zeP rfl rfl ?_
    refine zeP rfl rfl ?_
    refine zeP rfl rfl ?_
    refine zeCV rfl rfl rfl rfl (shS hb (by omega)) rfl (xc_heldBehind (m := m) (b := b) (t := t) (p := k) (h := h) hb ht (by omega) hD) (by omega) ?_
    dsimp only [Option.toList, List.cons_append, List.nil_append]
    refine zeP rfl rfl ?_
    refine zeP rfl rfl ?_
    refine zeB1 rfl rfl (fun h1 => ?_) (fun h1 => ?_)
    · refine zeInc rfl rfl ?_
      refine zeP rfl rfl ?_
      simp only [xl_partEnd, h1, cond_true, cond_false]
      exact ih ((x_heldBehind m b t k h)) ((k + 1))   (by omega) 
    · refine zeP rfl rfl ?_
      refine zeKn (c := 1) rfl rfl rfl ?_
      refine zeAdd rfl ?_
      exact zeRe rfl rfl rfl rfl (by simp only [xl_partEnd, h1, cond_true, cond_false] <;> rfl) (by simp only [xl_partEnd, h1, cond_true, cond_false] <;> rfl)
noncomputable def x_partEnd (m : Nat → Nat → Int32) (b : Nat) (t : Nat) (p : Nat) : Int32 := (bif zc1 .eq (x_kindAt m b t p) then (xl_partEnd m b t p ((mv m (b + 10 + 7 * t) 2 - p)) ((Int32.ofNat 0)) p) else (Int32.ofNat (p + 1)))
theorem xp_partEnd {σ : Nat → Nat × (Nat → Int32)} {yy : (Nat → Nat → Int64) × Bool × Nat × Nat} {m : Nat → Nat → Int32} {b : Nat} {t : Nat} {p : Nat} {d : Nat} (hd : 3 ≤ d + 1) (hb : BB b) (ht : t < 4) (hD : DT m b t) (hpd : p < mv m (b + 10 + 7 * t) 2) : zEv σ (d + 1) 1210 0 [some (.ref (b + 10 + 7 * t)), some (.int (Int32.ofNat p)), none, none] [] (zS1, m, yy) (.inl (some (.int (x_partEnd m b t p)))) (zS1, m, yy) := by
  refine zeP rfl rfl ?_
  refine zeP rfl rfl ?_
  refine zeCV rfl rfl rfl rfl (shS hb (by omega)) rfl (xc_kindAt (m := m) (b := b) (t := t) (p := p) hb ht (by have := hD.1.2; omega)) (by omega) ?_
  dsimp only [Option.toList, List.cons_append, List.nil_append]
  refine zeB1 rfl rfl (fun h1 => ?_) (fun h1 => ?_)
  · refine zeKn (c := 0) rfl rfl rfl ?_
    refine zeP rfl rfl ?_
    refine zeP rfl rfl ?_
    refine zeP rfl rfl ?_
    simp only [x_partEnd, h1, cond_true, cond_false]
    exact xw_partEnd (b := b) (t := t) (p := p) (m := m) (by omega) hb ht hD hD.1.2 ((mv m (b + 10 + 7 * t) 2 - p)) ((Int32.ofNat 0)) (p)   (by omega) 
  · refine zeP rfl rfl ?_
    refine zeKn (c := 1) rfl rfl rfl ?_
    refine zeAdd rfl ?_
    exact zeRe rfl rfl rfl rfl (by simp only [x_partEnd, h1, cond_true, cond_false] <;> rfl) (by simp only [x_partEnd, h1, cond_true, cond_false] <;> rfl)
theorem xc_partEnd {σ : Nat → Nat × (Nat → Int32)} {yy : (Nat → Nat → Int64) × Bool × Nat × Nat} {m : Nat → Nat → Int32} {b : Nat} {t : Nat} {p : Nat} (hb : BB b) (ht : t < 4) (hD : DT m b t) (hpd : p < mv m (b + 10 + 7 * t) 2) : zF σ 3 1210 [.ref (b + 10 + 7 * t), .int (Int32.ofNat p)] (zS1, m, yy) (.inl (some (.int (x_partEnd m b t p)))) (zS1, m, yy) := by
  intro d hd
  obtain ⟨d, rfl⟩ : ∃ k, d = k + 1 := ⟨d - 1, by omega⟩
  exact xp_partEnd hd hb ht hD hpd
/-- where a part ends -/
noncomputable def pen (m : Nat → Nat → Int32) (b t p : Nat) : Nat := (x_partEnd m b t p).toNatClampNeg
theorem penL {m : Nat → Nat → Int32} {b t p : Nat} : ∀ (n : Nat) (h : Int32) (k : Nat), k + n = mv m (b + 10 + 7 * t) 2 → p < mv m (b + 10 + 7 * t) 2 → p ≤ k → ∃ v, p < v ∧ v ≤ mv m (b + 10 + 7 * t) 2 ∧ xl_partEnd m b t p n h k = Int32.ofNat v := by
  intro n
  induction n with
  | zero => intro h k hk hp hpk; exact ⟨_, hp, Nat.le_refl _, rfl⟩
  | succ n ih =>
    intro h k hk hp hpk
    unfold xl_partEnd
    refine cnd4 (fun X : Int32 => ∃ v, p < v ∧ v ≤ mv m (b + 10 + 7 * t) 2 ∧ X = Int32.ofNat v) (fun _ => ih _ _ (by omega) hp (by omega)) (fun _ => ⟨k + 1, by omega, by omega, rfl⟩)
theorem pe_n {m : Nat → Nat → Int32} {b t p : Nat} (hD : DT m b t) (hp : p < mv m (b + 10 + 7 * t) 2) : x_partEnd m b t p = Int32.ofNat (pen m b t p) ∧ p < pen m b t p ∧ pen m b t p ≤ mv m (b + 10 + 7 * t) 2 := by
  have h24 := hD.1.2
  have key : ∃ v, p < v ∧ v ≤ mv m (b + 10 + 7 * t) 2 ∧ x_partEnd m b t p = Int32.ofNat v := by
    unfold x_partEnd
    refine cnd4 (fun X : Int32 => ∃ v, p < v ∧ v ≤ mv m (b + 10 + 7 * t) 2 ∧ X = Int32.ofNat v) (fun _ => penL _ _ _ (by omega) hp (Nat.le_refl _)) (fun _ => ⟨p + 1, by omega, by omega, rfl⟩)
  obtain ⟨v, h1, h2, h3⟩ := key
  unfold pen
  rw [h3, nv_on (by omega)]
  exact ⟨rfl, h1, h2⟩
noncomputable def xl_partCount (m : Nat → Nat → Int32) (b : Nat) (t : Nat) : Nat → Nat → Nat → Int32
  | 0, k, p => (Int32.ofNat k)
  | n + 1, k, p => (bif zc2 .ge (Int32.ofNat p) (Int32.ofNat (mv m (b + 10 + 7 * t) 2)) then (Int32.ofNat k) else (xl_partCount m b t n ((k + 1)) ((pen m b t p))))
theorem xw_partCount {σ : Nat → Nat × (Nat → Int32)} {yy : (Nat → Nat → Int64) × Bool × Nat × Nat} {m : Nat → Nat → Int32} {b : Nat} {t : Nat} {d : Nat} (hd : 4 ≤ d + 1) (hb : BB b) (ht : t < 4) (hD : DT m b t) (h24 : mv m (b + 10 + 7 * t) 2 ≤ 24) : ∀ (n : Nat) (k : Nat) (p : Nat), k + n = 24 → p ≤ mv m (b + 10 + 7 * t) 2 → zEv σ (d + 1) 1211 4 [some (.ref (b + 10 + 7 * t)), some (.int (Int32.ofNat k)), some (.int (Int32.ofNat p))] [] (zS1, m, yy) (.inl (some (.int (xl_partCount m b t n k p)))) (zS1, m, yy) := by
  intro n
  induction n with
  | zero =>
    intro k p hk hp
    refine zeP rfl rfl ?_
    refine zeKn (c := 24) rfl rfl rfl ?_
    refine zeT2 rfl rfl (zcge (by omega) (by omega) (by omega)) ?_
    refine zeP rfl rfl ?_
    exact zeRe rfl rfl rfl rfl (by rfl) (by rfl)
  | succ n ih =>
    intro k p hk hp
    refine zeP rfl rfl ?_
    refine zeKn (c := 24) rfl rfl rfl ?_
    refine zeF2 rfl rfl (zcge_f (by omega) (by omega) (by omega)) ?_
    refine zeP rfl rfl ?_
    refine zeP rfl rfl ?_
    refine zeGI rfl rfl (shS hb (by omega)) rfl rfl ?_
    rw [hD.1.1]
    refine zeB2 rfl rfl (fun h1 => ?_) (fun h1 => ?_)
    · refine zeP rfl rfl ?_
      exact zeRe rfl rfl rfl rfl (by simp only [xl_partCount, h1, cond_true, cond_false] <;> rfl) (by simp only [xl_partCount, h1, cond_true, cond_false] <;> rfl)
    · refine zeP rfl rfl ?_
      refine zeP rfl rfl ?_
      refine zeCV rfl rfl rfl rfl (shS hb (by omega)) rfl (xc_partEnd (m := m) (b := b) (t := t) (p := p) hb ht hD (zge_lt (by omega) (by omega) (by assumption))) (by omega) ?_
      dsimp only [Option.toList, List.cons_append, List.nil_append]
      rw [(pe_n hD (zge_lt (by omega) (by omega) (by assumption))).1]
      refine zeP rfl rfl ?_
      refine zeInc rfl rfl ?_
      refine zeP rfl rfl ?_
      simp only [xl_partCount, h1, cond_true, cond_false]
      exact ih ((k + 1)) ((pen m b t p))   (by omega) (pe_n hD (zge_lt (by omega) (by omega) (by assumption))).2.2
noncomputable def x_partCount (m : Nat → Nat → Int32) (b : Nat) (t : Nat) : Int32 := (xl_partCount m b t 24 0 0)
theorem xp_partCount {σ : Nat → Nat × (Nat → Int32)} {yy : (Nat → Nat → Int64) × Bool × Nat × Nat} {m : Nat → Nat → Int32} {b : Nat} {t : Nat} {d : Nat} (hd : 4 ≤ d + 1) (hb : BB b) (ht : t < 4) (hD : DT m b t) : zEv σ (d + 1) 1211 0 [some (.ref (b + 10 + 7 * t)), none, none] [] (zS1, m, yy) (.inl (some (.int (x_partCount m b t)))) (zS1, m, yy) := by
  refine zeKn (c := 0) rfl rfl rfl ?_
  refine zeP rfl rfl ?_
  refine zeKn (c := 0) rfl rfl rfl ?_
  refine zeP rfl rfl ?_
  simp only [x_partCount, cond_true, cond_false]
  exact xw_partCount (b := b) (t := t) (m := m) (by omega) hb ht hD hD.1.2 24 (0) (0)   (by omega) (Nat.zero_le _)
theorem xc_partCount {σ : Nat → Nat × (Nat → Int32)} {yy : (Nat → Nat → Int64) × Bool × Nat × Nat} {m : Nat → Nat → Int32} {b : Nat} {t : Nat} (hb : BB b) (ht : t < 4) (hD : DT m b t) : zF σ 4 1211 [.ref (b + 10 + 7 * t)] (zS1, m, yy) (.inl (some (.int (x_partCount m b t)))) (zS1, m, yy) := by
  intro d hd
  obtain ⟨d, rfl⟩ : ∃ k, d = k + 1 := ⟨d - 1, by omega⟩
  exact xp_partCount hd hb ht hD
noncomputable def xl_clear (b : Nat) (t : Nat) : Nat → Nat → (Nat → Nat → Int32) → (Nat → Nat → Int32)
  | 0, k, m => (x_close m b t)
  | n + 1, k, m => (xl_clear b t n ((k + 1)) ((zm2 m ((b + 13 + 7 * t)) k (Int32.ofNat 0))))
theorem xw_clear {σ : Nat → Nat × (Nat → Int32)} {yy : (Nat → Nat → Int64) × Bool × Nat × Nat} {b : Nat} {t : Nat} {d : Nat} (hd : 2 ≤ d + 1) (hb : BB b) (ht : t < 4) : ∀ (n : Nat) (k : Nat) (m : Nat → Nat → Int32), k + n = 5 → zEv σ (d + 1) 1202 32 [some (.ref (b + 10 + 7 * t)), some (.int (Int32.ofNat k))] [] (zS1, m, yy) (.inl none) (zS1, ((xl_clear b t n k m)), yy) := by
  intro n
  induction n with
  | zero =>
    intro k m hk
    refine zeP rfl rfl ?_
    refine zeKn (c := 5) rfl rfl rfl ?_
    refine zeT2 rfl rfl (zcge (by omega) (by omega) (by omega)) ?_
    refine zeP rfl rfl ?_
    refine zeGR rfl rfl (shS hb (by omega)) rfl rfl ?_
    refine zeCV rfl rfl rfl rfl (shG hb (by omega)) rfl (xc_close (m := m) (b := b) (t := t) hb ht) (by omega) ?_
    dsimp only [Option.toList, List.cons_append, List.nil_append]
    exact zeRe rfl rfl rfl rfl (by rfl) (by rfl)
  | succ n ih =>
    intro k m hk
    refine zeP rfl rfl ?_
    refine zeKn (c := 5) rfl rfl rfl ?_
    refine zeF2 rfl rfl (zcge_f (by omega) (by omega) (by omega)) ?_
    refine zeP rfl rfl ?_
    refine zeGR rfl rfl (shS hb (by omega)) rfl rfl ?_
    refine zeP rfl rfl ?_
    refine zeKn (c := 0) rfl rfl rfl ?_
    refine zeAS (k := k) rfl (shF hb (by omega)) rfl (by omega) ?_
    refine zeInc rfl rfl ?_
    refine zeP rfl rfl ?_
    simp only [xl_clear, cond_true, cond_false]
    exact ih ((k + 1))  ((zm2 m ((b + 13 + 7 * t)) k (Int32.ofNat 0))) (by omega) 
noncomputable def x_clear (m : Nat → Nat → Int32) (b : Nat) (t : Nat) : (Nat → Nat → Int32) := (xl_clear b t 5 0 ((zm2 ((zm2 ((zm2 ((zm2 ((zm2 ((zm2 m ((b + 10 + 7 * t)) 2 (Int32.ofNat 0))) ((b + 10 + 7 * t)) 3 (Int32.ofNat 0))) ((b + 10 + 7 * t)) 4 (Int32.ofNat 0))) ((b + 10 + 7 * t)) 5 (Int32.ofNat 0))) ((b + 10 + 7 * t)) 6 (Int32.ofNat 0))) ((b + 10 + 7 * t)) 7 (Int32.ofNat 0))))
theorem xp_clear {σ : Nat → Nat × (Nat → Int32)} {yy : (Nat → Nat → Int64) × Bool × Nat × Nat} {m : Nat → Nat → Int32} {b : Nat} {t : Nat} {d : Nat} (hd : 2 ≤ d + 1) (hb : BB b) (ht : t < 4) : zEv σ (d + 1) 1202 0 [some (.ref (b + 10 + 7 * t)), none] [] (zS1, m, yy) (.inl none) (zS1, ((x_clear m b t)), yy) := by
  refine zeP rfl rfl ?_
  refine zeKn (c := 0) rfl rfl rfl ?_
  refine zePI rfl rfl (shS hb (by omega)) rfl ?_
  refine zeP rfl rfl ?_
  refine zeKn (c := 0) rfl rfl rfl ?_
  refine zePI rfl rfl (shS hb (by omega)) rfl ?_
  refine zeP rfl rfl ?_
  refine zeKn (c := 0) rfl rfl rfl ?_
  refine zePI rfl rfl (shS hb (by omega)) rfl ?_
  refine zeP rfl rfl ?_
  refine zeKn (c := 0) rfl rfl rfl ?_
  refine zePI rfl rfl (shS hb (by omega)) rfl ?_
  refine zeP rfl rfl ?_
  refine zeKn (c := 0) rfl rfl rfl ?_
  refine zePI rfl rfl (shS hb (by omega)) rfl ?_
  refine zeP rfl rfl ?_
  refine zeKn (c := 0) rfl rfl rfl ?_
  refine zePI rfl rfl (shS hb (by omega)) rfl ?_
  refine zeKn (c := 0) rfl rfl rfl ?_
  refine zeP rfl rfl ?_
  simp only [x_clear, cond_true, cond_false]
  exact xw_clear (b := b) (t := t) (by omega) hb ht 5 (0)  ((zm2 ((zm2 ((zm2 ((zm2 ((zm2 ((zm2 m ((b + 10 + 7 * t)) 2 (Int32.ofNat 0))) ((b + 10 + 7 * t)) 3 (Int32.ofNat 0))) ((b + 10 + 7 * t)) 4 (Int32.ofNat 0))) ((b + 10 + 7 * t)) 5 (Int32.ofNat 0))) ((b + 10 + 7 * t)) 6 (Int32.ofNat 0))) ((b + 10 + 7 * t)) 7 (Int32.ofNat 0))) (by omega) 
theorem xc_clear {σ : Nat → Nat × (Nat → Int32)} {yy : (Nat → Nat → Int64) × Bool × Nat × Nat} {m : Nat → Nat → Int32} {b : Nat} {t : Nat} (hb : BB b) (ht : t < 4) : zF σ 2 1202 [.ref (b + 10 + 7 * t)] (zS1, m, yy) (.inl none) (zS1, ((x_clear m b t)), yy) := by
  intro d hd
  obtain ⟨d, rfl⟩ : ∃ k, d = k + 1 := ⟨d - 1, by omega⟩
  exact xp_clear hd hb ht
noncomputable def x_addDeed (m : Nat → Nat → Int32) (b : Nat) (t : Nat) (x : Int32) (y : Int32) : (Nat → Nat → Int32) := (bif zc2 .ge (Int32.ofNat (mv m (b + 10 + 7 * t) 2)) (Int32.ofNat 24) then m else (zm2 ((zm2 ((zm2 m ((b + 11 + 7 * t)) ((mv m (b + 10 + 7 * t) 2)) x)) ((b + 12 + 7 * t)) ((mv m (b + 10 + 7 * t) 2)) y)) ((b + 10 + 7 * t)) 2 (Int32.ofNat ((mv m (b + 10 + 7 * t) 2) + 1))))
theorem xp_addDeed {σ : Nat → Nat × (Nat → Int32)} {yy : (Nat → Nat → Int64) × Bool × Nat × Nat} {m : Nat → Nat → Int32} {b : Nat} {t : Nat} {x : Int32} {y : Int32} {d : Nat} (hd : 1 ≤ d + 1) (hb : BB b) (ht : t < 4) (h2 : m (b + 10 + 7 * t) 2 = Int32.ofNat (mv m (b + 10 + 7 * t) 2)) (h24 : mv m (b + 10 + 7 * t) 2 ≤ 24) : zEv σ (d + 1) 1203 0 [some (.ref (b + 10 + 7 * t)), some (.int x), some (.int y)] [] (zS1, m, yy) (.inl none) (zS1, ((x_addDeed m b t x y)), yy) := by
  refine zeP rfl rfl ?_
  refine zeGI rfl rfl (shS hb (by omega)) rfl rfl ?_
  rw [h2]
  refine zeKn (c := 24) rfl rfl rfl ?_
  refine zeB2 rfl rfl (fun h1 => ?_) (fun h1 => ?_)
  · exact zeRe rfl rfl rfl rfl (by simp only [x_addDeed, h1, cond_true, cond_false] <;> rfl) (by simp only [x_addDeed, h1, cond_true, cond_false] <;> rfl)
  · refine zeP rfl rfl ?_
    refine zeGR rfl rfl (shS hb (by omega)) rfl rfl ?_
    refine zeP rfl rfl ?_
    refine zeGI rfl rfl (shS hb (by omega)) rfl rfl ?_
    rw [h2]
    refine zeP rfl rfl ?_
    refine zeAS (k := (mv m (b + 10 + 7 * t) 2)) rfl (shK hb (by omega)) rfl (zge_lt (by omega) (by omega) (by assumption)) ?_
    refine zeP rfl rfl ?_
    refine zeGR rfl rfl (shS hb (by omega)) rfl rfl ?_
    refine zeP rfl rfl ?_
    refine zeGI rfl rfl (shS hb (by omega)) rfl rfl ?_
    rw [(show (((zm2 m ((b + 11 + 7 * t)) ((mv m (b + 10 + 7 * t) 2)) x)) ((b + 10 + 7 * t)) 2) = Int32.ofNat (mv m (b + 10 + 7 * t) 2) from (by simp (disch := omega) only [zx_ne]; exact h2))]
    refine zeP rfl rfl ?_
    refine zeAS (k := (mv m (b + 10 + 7 * t) 2)) rfl (shN hb (by omega)) rfl (zge_lt (by omega) (by omega) (by assumption)) ?_
    refine zeP rfl rfl ?_
    refine zeP rfl rfl ?_
    refine zeGI rfl rfl (shS hb (by omega)) rfl rfl ?_
    rw [(show (((zm2 ((zm2 m ((b + 11 + 7 * t)) ((mv m (b + 10 + 7 * t) 2)) x)) ((b + 12 + 7 * t)) ((mv m (b + 10 + 7 * t) 2)) y)) ((b + 10 + 7 * t)) 2) = Int32.ofNat (mv m (b + 10 + 7 * t) 2) from (by simp (disch := omega) only [zx_ne]; exact h2))]
    refine zeKn (c := 1) rfl rfl rfl ?_
    refine zeAdd rfl ?_
    refine zePI rfl rfl (shS hb (by omega)) rfl ?_
    exact zeRe rfl rfl rfl rfl (by simp only [x_addDeed, h1, cond_true, cond_false] <;> rfl) (by simp only [x_addDeed, h1, cond_true, cond_false] <;> rfl)
theorem xc_addDeed {σ : Nat → Nat × (Nat → Int32)} {yy : (Nat → Nat → Int64) × Bool × Nat × Nat} {m : Nat → Nat → Int32} {b : Nat} {t : Nat} {x : Int32} {y : Int32} (hb : BB b) (ht : t < 4) (h2 : m (b + 10 + 7 * t) 2 = Int32.ofNat (mv m (b + 10 + 7 * t) 2)) (h24 : mv m (b + 10 + 7 * t) 2 ≤ 24) : zF σ 1 1203 [.ref (b + 10 + 7 * t), .int x, .int y] (zS1, m, yy) (.inl none) (zS1, ((x_addDeed m b t x y)), yy) := by
  intro d hd
  obtain ⟨d, rfl⟩ : ∃ k, d = k + 1 := ⟨d - 1, by omega⟩
  exact xp_addDeed hd hb ht h2 h24
noncomputable def xl_wordOther (m : Nat → Nat → Int32) (b : Nat) (l : Int32) (w : Int32) : Nat → Nat → Int32
  | 0, k => (Int32.ofNat 0)
  | n + 1, k => (bif zc2 .eq (Int32.ofNat k) l then (xl_wordOther m b l w n ((k + 1))) else (bif zc2 .ne (m ((b + 5 + k)) 0) w then (xl_wordOther m b l w n ((k + 1))) else (Int32.ofNat 1)))
theorem xw_wordOther {σ : Nat → Nat × (Nat → Int32)} {yy : (Nat → Nat → Int64) × Bool × Nat × Nat} {m : Nat → Nat → Int32} {b : Nat} {l : Int32} {w : Int32} {d : Nat} (hd : 2 ≤ d + 1) (hb : BB b) : ∀ (n : Nat) (k : Nat), k + n = 4 → zEv σ (d + 1) 631 2 [some (.ref b), some (.int l), some (.int w), some (.int (Int32.ofNat k))] [] (zS1, m, yy) (.inl (some (.int (xl_wordOther m b l w n k)))) (zS1, m, yy) := by
  intro n
  induction n with
  | zero =>
    intro k hk
    refine zeP rfl rfl ?_
    refine zeKn (c := 4) rfl rfl rfl ?_
    refine zeT2 rfl rfl (zcge (by omega) (by omega) (by omega)) ?_
    refine zeKn (c := 0) rfl rfl rfl ?_
    exact zeRe rfl rfl rfl rfl (by rfl) (by rfl)
  | succ n ih =>
    intro k hk
    refine zeP rfl rfl ?_
    refine zeKn (c := 4) rfl rfl rfl ?_
    refine zeF2 rfl rfl (zcge_f (by omega) (by omega) (by omega)) ?_
    refine zeP rfl rfl ?_
    refine zeP rfl rfl ?_
    refine zeB2 rfl rfl (fun h1 => ?_) (fun h1 => ?_)
    · refine zeInc rfl rfl ?_
      refine zeP rfl rfl ?_
      simp only [xl_wordOther, h1, cond_true, cond_false]
      exact ih ((k + 1))   (by omega) 
    · refine zeP rfl rfl ?_
      refine zeP rfl rfl ?_
      refine zeCV rfl rfl rfl rfl (shM hb) rfl (xc_lockAt (m := m) (b := b) (l := k) hb (by omega)) (by omega) ?_
      dsimp only [Option.toList, List.cons_append, List.nil_append]
      refine zeGI rfl rfl (shL hb (by omega)) rfl rfl ?_
      refine zeP rfl rfl ?_
      refine zeB2 rfl rfl (fun h2 => ?_) (fun h2 => ?_)
      · refine zeInc rfl rfl ?_
        refine zeP rfl rfl ?_
        simp only [xl_wordOther, h1, h2, cond_true, cond_false]
        exact ih ((k + 1))   (by omega) 
      · refine zeKn (c := 1) rfl rfl rfl ?_
        exact zeRe rfl rfl rfl rfl (by simp only [xl_wordOther, h1, h2, cond_true, cond_false] <;> rfl) (by simp only [xl_wordOther, h1, h2, cond_true, cond_false] <;> rfl)
noncomputable def x_isWordOfOther (m : Nat → Nat → Int32) (b : Nat) (l : Int32) (w : Int32) : Int32 := (xl_wordOther m b l w 4 0)
theorem xp_isWordOfOther {σ : Nat → Nat × (Nat → Int32)} {yy : (Nat → Nat → Int64) × Bool × Nat × Nat} {m : Nat → Nat → Int32} {b : Nat} {l : Int32} {w : Int32} {d : Nat} (hd : 2 ≤ d + 1) (hb : BB b) : zEv σ (d + 1) 631 0 [some (.ref b), some (.int l), some (.int w), none] [] (zS1, m, yy) (.inl (some (.int (x_isWordOfOther m b l w)))) (zS1, m, yy) := by
  refine zeKn (c := 0) rfl rfl rfl ?_
  refine zeP rfl rfl ?_
  simp only [x_isWordOfOther, cond_true, cond_false]
  exact xw_wordOther (b := b) (l := l) (w := w) (m := m) (by omega) hb 4 (0)   (by omega) 
theorem xc_isWordOfOther {σ : Nat → Nat × (Nat → Int32)} {yy : (Nat → Nat → Int64) × Bool × Nat × Nat} {m : Nat → Nat → Int32} {b : Nat} {l : Int32} {w : Int32} (hb : BB b) : zF σ 2 631 [.ref b, .int l, .int w] (zS1, m, yy) (.inl (some (.int (x_isWordOfOther m b l w)))) (zS1, m, yy) := by
  intro d hd
  obtain ⟨d, rfl⟩ : ∃ k, d = k + 1 := ⟨d - 1, by omega⟩
  exact xp_isWordOfOther hd hb
