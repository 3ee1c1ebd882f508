/-! the law's loop -/
theorem and63 (x : Int32) : ∃ k : Nat, k ≤ 63 ∧ x &&& Int32.ofNat 63 = Int32.ofNat k := by
  have h : (x &&& Int32.ofNat 63).toBitVec.toNat ≤ 63 := by
    rw [Int32.toBitVec_and, BitVec.toNat_and]
    exact Nat.and_le_right
  refine ⟨(x &&& Int32.ofNat 63).toBitVec.toNat, h, ?_⟩
  apply Int32.toInt_inj.mp
  rw [zoN (by omega)]
  exact BitVec.toInt_eq_toNat_of_lt (by omega)
theorem sub6 {L : Nat} (h : L ≤ 3072) : (Int32.ofNat L - Int32.ofNat 6).toInt = (L : Int) - 6 := by
  rw [Int32.toInt_sub, zoN (by omega), zoN (by omega)]
  exact Int.bmod_eq_of_le (by omega) (by omega)
theorem inc6 (c : Nat) : Int32.ofNat (6 * c) + Int32.ofInt 6 = Int32.ofNat (6 * (c + 1)) := by
  have e : 6 * (c + 1) = 6 * c + 6 := by omega
  rw [e, Int32.ofNat_add]
  rfl
section ZLP
variable {L : Nat} {xs : Nat → Int32} {yy : (Nat → Nat → Int64) × Bool × Nat × Nat} {m : Nat → Nat → Int32}
set_option maxRecDepth 100000 in
theorem lc_all {c k : Nat} {x5 x6 : Option Value} (hk : k ≤ 63) (h : LI m) (hc : 6 * c + 6 ≤ L) (hL : L ≤ 3072) : ∃ m' yy' y5 y6, LI m' ∧ YG yy yy' ∧ ∀ o M', zEv (zsig L xs) (19 + 1) 2024 1268 [some (.ref 1000), some (.ref 0), some (.ref 137), some (.ref 146), some (.int (Int32.ofNat (6 * c))), y5, y6] [] (zS1, m', yy') o M' → zEv (zsig L xs) (19 + 1) 2024 40 [some (.ref 1000), some (.ref 0), some (.ref 137), some (.ref 146), some (.int (Int32.ofNat (6 * c))), x5, x6] [.int (Int32.ofNat k)] (zS1, m, yy) o M' := by
  match k, hk with
  | 0, _ =>
    obtain ⟨m1, yy1, y5, y6, e1, e2, e3⟩ := lc_feed (xs := xs) (yy := yy) (x5 := x5) (x6 := x6) h hc hL
    exact ⟨m1, yy1, y5, y6, e1, e2, fun o M' kk => zeSw (K := 0) rfl rfl rfl (e3 o M' kk)⟩
  | 1, _ =>
    obtain ⟨m1, yy1, y5, y6, e1, e2, e3⟩ := lc_end (xs := xs) (yy := yy) (x5 := x5) (x6 := x6) h hc hL
    exact ⟨m1, yy1, y5, y6, e1, e2, fun o M' kk => zeSw (K := 1) rfl rfl rfl (e3 o M' kk)⟩
  | 2, _ =>
    obtain ⟨m1, yy1, y5, y6, e1, e2, e3⟩ := lc_machine (xs := xs) (yy := yy) (x5 := x5) (x6 := x6) h hc hL
    exact ⟨m1, yy1, y5, y6, e1, e2, fun o M' kk => zeSw (K := 2) rfl rfl rfl (e3 o M' kk)⟩
  | 3, _ =>
    obtain ⟨m1, yy1, y5, y6, e1, e2, e3⟩ := lc_fault (xs := xs) (yy := yy) (x5 := x5) (x6 := x6) h hc hL
    exact ⟨m1, yy1, y5, y6, e1, e2, fun o M' kk => zeSw (K := 3) rfl rfl rfl (e3 o M' kk)⟩
  | 4, _ =>
    obtain ⟨m1, yy1, y5, y6, e1, e2, e3⟩ := lc_thread (xs := xs) (yy := yy) (x5 := x5) (x6 := x6) h hc hL
    exact ⟨m1, yy1, y5, y6, e1, e2, fun o M' kk => zeSw (K := 4) rfl rfl rfl (e3 o M' kk)⟩
  | 5, _ =>
    obtain ⟨m1, yy1, y5, y6, e1, e2, e3⟩ := lc_leftOut (xs := xs) (yy := yy) (x5 := x5) (x6 := x6) h hc hL
    exact ⟨m1, yy1, y5, y6, e1, e2, fun o M' kk => zeSw (K := 5) rfl rfl rfl (e3 o M' kk)⟩
  | 6, _ =>
    obtain ⟨m1, yy1, y5, y6, e1, e2, e3⟩ := lc_blocks (xs := xs) (yy := yy) (x5 := x5) (x6 := x6) h hc hL
    exact ⟨m1, yy1, y5, y6, e1, e2, fun o M' kk => zeSw (K := 6) rfl rfl rfl (e3 o M' kk)⟩
  | 7, _ =>
    obtain ⟨m1, yy1, y5, y6, e1, e2, e3⟩ := lc_fell (xs := xs) (yy := yy) (x5 := x5) (x6 := x6) h hc hL
    exact ⟨m1, yy1, y5, y6, e1, e2, fun o M' kk => zeSw (K := 7) rfl rfl rfl (e3 o M' kk)⟩
  | 8, _ =>
    obtain ⟨m1, yy1, y5, y6, e1, e2, e3⟩ := lc_word (xs := xs) (yy := yy) (x5 := x5) (x6 := x6) h hc hL
    exact ⟨m1, yy1, y5, y6, e1, e2, fun o M' kk => zeSw (K := 8) rfl rfl rfl (e3 o M' kk)⟩
  | 9, _ =>
    obtain ⟨m1, yy1, y5, y6, e1, e2, e3⟩ := lc_sees (xs := xs) (yy := yy) (x5 := x5) (x6 := x6) h hc hL
    exact ⟨m1, yy1, y5, y6, e1, e2, fun o M' kk => zeSw (K := 9) rfl rfl rfl (e3 o M' kk)⟩
  | 10, _ =>
    obtain ⟨m1, yy1, y5, y6, e1, e2, e3⟩ := lc_lock (xs := xs) (yy := yy) (x5 := x5) (x6 := x6) h hc hL
    exact ⟨m1, yy1, y5, y6, e1, e2, fun o M' kk => zeSw (K := 10) rfl rfl rfl (e3 o M' kk)⟩
  | 11, _ =>
    obtain ⟨m1, yy1, y5, y6, e1, e2, e3⟩ := lc_term (xs := xs) (yy := yy) (x5 := x5) (x6 := x6) h hc hL
    exact ⟨m1, yy1, y5, y6, e1, e2, fun o M' kk => zeSw (K := 11) rfl rfl rfl (e3 o M' kk)⟩
  | 12, _ =>
    obtain ⟨m1, yy1, y5, y6, e1, e2, e3⟩ := lc_deed (xs := xs) (yy := yy) (x5 := x5) (x6 := x6) h hc hL
    exact ⟨m1, yy1, y5, y6, e1, e2, fun o M' kk => zeSw (K := 12) rfl rfl rfl (e3 o M' kk)⟩
  | 13, _ =>
    obtain ⟨m1, yy1, y5, y6, e1, e2, e3⟩ := lc_step (xs := xs) (yy := yy) (x5 := x5) (x6 := x6) h hc hL
    exact ⟨m1, yy1, y5, y6, e1, e2, fun o M' kk => zeSw (K := 13) rfl rfl rfl (e3 o M' kk)⟩
  | 14, _ =>
    obtain ⟨m1, yy1, y5, y6, e1, e2, e3⟩ := lc_run (xs := xs) (yy := yy) (x5 := x5) (x6 := x6) h hc hL
    exact ⟨m1, yy1, y5, y6, e1, e2, fun o M' kk => zeSw (K := 14) rfl rfl rfl (e3 o M' kk)⟩
  | 15, _ =>
    obtain ⟨m1, yy1, y5, y6, e1, e2, e3⟩ := lc_chance (xs := xs) (yy := yy) (x5 := x5) (x6 := x6) h hc hL
    exact ⟨m1, yy1, y5, y6, e1, e2, fun o M' kk => zeSw (K := 15) rfl rfl rfl (e3 o M' kk)⟩
  | 16, _ =>
    obtain ⟨m1, yy1, y5, y6, e1, e2, e3⟩ := lc_poke (xs := xs) (yy := yy) (x5 := x5) (x6 := x6) h hc hL
    exact ⟨m1, yy1, y5, y6, e1, e2, fun o M' kk => zeSw (K := 16) rfl rfl rfl (e3 o M' kk)⟩
  | 17, _ =>
    obtain ⟨m1, yy1, y5, y6, e1, e2, e3⟩ := lc_tune (xs := xs) (yy := yy) (x5 := x5) (x6 := x6) h hc hL
    exact ⟨m1, yy1, y5, y6, e1, e2, fun o M' kk => zeSw (K := 17) rfl rfl rfl (e3 o M' kk)⟩
  | 18, _ =>
    obtain ⟨m1, yy1, y5, y6, e1, e2, e3⟩ := lc_seed (xs := xs) (yy := yy) (x5 := x5) (x6 := x6) h hc hL
    exact ⟨m1, yy1, y5, y6, e1, e2, fun o M' kk => zeSw (K := 18) rfl rfl rfl (e3 o M' kk)⟩
  | 19, _ =>
    obtain ⟨m1, yy1, y5, y6, e1, e2, e3⟩ := lc_due (xs := xs) (yy := yy) (x5 := x5) (x6 := x6) h hc hL
    exact ⟨m1, yy1, y5, y6, e1, e2, fun o M' kk => zeSw (K := 19) rfl rfl rfl (e3 o M' kk)⟩
  | 20, _ =>
    obtain ⟨m1, yy1, y5, y6, e1, e2, e3⟩ := lc_quickest (xs := xs) (yy := yy) (x5 := x5) (x6 := x6) h hc hL
    exact ⟨m1, yy1, y5, y6, e1, e2, fun o M' kk => zeSw (K := 20) rfl rfl rfl (e3 o M' kk)⟩
  | 21, _ =>
    obtain ⟨m1, yy1, y5, y6, e1, e2, e3⟩ := lc_plain (xs := xs) (yy := yy) (x5 := x5) (x6 := x6) h hc hL
    exact ⟨m1, yy1, y5, y6, e1, e2, fun o M' kk => zeSw (K := 21) rfl rfl rfl (e3 o M' kk)⟩
  | 22, _ =>
    obtain ⟨m1, yy1, y5, y6, e1, e2, e3⟩ := lc_touches (xs := xs) (yy := yy) (x5 := x5) (x6 := x6) h hc hL
    exact ⟨m1, yy1, y5, y6, e1, e2, fun o M' kk => zeSw (K := 22) rfl rfl rfl (e3 o M' kk)⟩
  | 23, _ =>
    obtain ⟨m1, yy1, y5, y6, e1, e2, e3⟩ := lc_rivals (xs := xs) (yy := yy) (x5 := x5) (x6 := x6) h hc hL
    exact ⟨m1, yy1, y5, y6, e1, e2, fun o M' kk => zeSw (K := 23) rfl rfl rfl (e3 o M' kk)⟩
  | 24, _ =>
    obtain ⟨m1, yy1, y5, y6, e1, e2, e3⟩ := lc_nest (xs := xs) (yy := yy) (x5 := x5) (x6 := x6) h hc hL
    exact ⟨m1, yy1, y5, y6, e1, e2, fun o M' kk => zeSw (K := 24) rfl rfl rfl (e3 o M' kk)⟩
  | 25, _ =>
    obtain ⟨m1, yy1, y5, y6, e1, e2, e3⟩ := lc_parts (xs := xs) (yy := yy) (x5 := x5) (x6 := x6) h hc hL
    exact ⟨m1, yy1, y5, y6, e1, e2, fun o M' kk => zeSw (K := 25) rfl rfl rfl (e3 o M' kk)⟩
  | 26, _ =>
    obtain ⟨m1, yy1, y5, y6, e1, e2, e3⟩ := lc_serial (xs := xs) (yy := yy) (x5 := x5) (x6 := x6) h hc hL
    exact ⟨m1, yy1, y5, y6, e1, e2, fun o M' kk => zeSw (K := 26) rfl rfl rfl (e3 o M' kk)⟩
  | 27, _ =>
    obtain ⟨m1, yy1, y5, y6, e1, e2, e3⟩ := lc_output (xs := xs) (yy := yy) (x5 := x5) (x6 := x6) h hc hL
    exact ⟨m1, yy1, y5, y6, e1, e2, fun o M' kk => zeSw (K := 27) rfl rfl rfl (e3 o M' kk)⟩
  | 28, _ =>
    obtain ⟨m1, yy1, y5, y6, e1, e2, e3⟩ := lc_log (xs := xs) (yy := yy) (x5 := x5) (x6 := x6) h hc hL
    exact ⟨m1, yy1, y5, y6, e1, e2, fun o M' kk => zeSw (K := 28) rfl rfl rfl (e3 o M' kk)⟩
  | 29, _ =>
    obtain ⟨m1, yy1, y5, y6, e1, e2, e3⟩ := lc_text (xs := xs) (yy := yy) (x5 := x5) (x6 := x6) h hc hL
    exact ⟨m1, yy1, y5, y6, e1, e2, fun o M' kk => zeSw (K := 29) rfl rfl rfl (e3 o M' kk)⟩
  | 30, _ =>
    obtain ⟨m1, yy1, y5, y6, e1, e2, e3⟩ := lc_octet (xs := xs) (yy := yy) (x5 := x5) (x6 := x6) h hc hL
    exact ⟨m1, yy1, y5, y6, e1, e2, fun o M' kk => zeSw (K := 30) rfl rfl rfl (e3 o M' kk)⟩
  | 31, _ =>
    obtain ⟨m1, yy1, y5, y6, e1, e2, e3⟩ := lc_image (xs := xs) (yy := yy) (x5 := x5) (x6 := x6) h hc hL
    exact ⟨m1, yy1, y5, y6, e1, e2, fun o M' kk => zeSw (K := 31) rfl rfl rfl (e3 o M' kk)⟩
  | 32, _ =>
    obtain ⟨m1, yy1, y5, y6, e1, e2, e3⟩ := lc_back (xs := xs) (yy := yy) (x5 := x5) (x6 := x6) h hc hL
    exact ⟨m1, yy1, y5, y6, e1, e2, fun o M' kk => zeSw (K := 32) rfl rfl rfl (e3 o M' kk)⟩
  | 33, _ =>
    obtain ⟨m1, yy1, y5, y6, e1, e2, e3⟩ := lc_count (xs := xs) (yy := yy) (x5 := x5) (x6 := x6) h hc hL
    exact ⟨m1, yy1, y5, y6, e1, e2, fun o M' kk => zeSw (K := 33) rfl rfl rfl (e3 o M' kk)⟩
  | k + 34, hk => exact ⟨m, yy, x5, x6, h, YG.rf, fun o M' kk => zeSwD rfl (Or.inr (by rw [zoN (by omega)]; omega)) rfl kk⟩
set_option maxRecDepth 100000 in
theorem law_loop (hL : L ≤ 3072) : ∀ (n c : Nat) (m : Nat → Nat → Int32) (yy : (Nat → Nat → Int64) × Bool × Nat × Nat) (x5 x6 : Option Value), L ≤ 6 * c + 6 * n + 5 → 6 * c ≤ 3072 → LI m → ∃ M', zEv (zsig L xs) (19 + 1) 2024 23 [some (.ref 1000), some (.ref 0), some (.ref 137), some (.ref 146), some (.int (Int32.ofNat (6 * c))), x5, x6] [] (zS1, m, yy) (.inl (some (.int 1))) M' ∧ M'.2.2.2.2.1 ≤ yy.2.2.1 + n ∧ M'.2.2.2.2.2 ≤ yy.2.2.2 + 6 * n := by
  intro n
  induction n with
  | zero =>
    intro c m yy x5 x6 h1 h2 h
    refine ⟨(zS1, m, yy), ?_, Nat.le_refl _, Nat.le_refl _⟩
    refine zeP rfl rfl ?_
    refine zeP rfl rfl ?_
    refine zeS (pc' := 27) (st' := [.int (Int32.ofNat L), .int (Int32.ofNat (6 * c))]) (M1 := (zS1, m, yy)) rfl rfl rfl ?_
    refine zeKn (c := 6) rfl rfl rfl ?_
    refine zeP rfl rfl ?_
    refine zeT2 rfl rfl ?_ ?_
    · apply decide_eq_true
      rw [Int32.lt_iff_toInt_lt, sub6 hL, zoN (by omega)]
      omega
    · refine zeKn (c := 1) rfl rfl rfl ?_
      exact zeRe rfl rfl rfl rfl rfl rfl
  | succ n ih =>
    intro c m yy x5 x6 h1 h2 h
    cases hg : zc2 .gt (Int32.ofNat (6 * c)) (Int32.ofNat L - Int32.ofNat 6) with
    | true =>
      refine ⟨(zS1, m, yy), ?_, Nat.le_add_right _ _, Nat.le_add_right _ _⟩
      refine zeP rfl rfl ?_
      refine zeP rfl rfl ?_
      refine zeS (pc' := 27) (st' := [.int (Int32.ofNat L), .int (Int32.ofNat (6 * c))]) (M1 := (zS1, m, yy)) rfl rfl rfl ?_
      refine zeKn (c := 6) rfl rfl rfl ?_
      refine zeP rfl rfl ?_
      refine zeT2 rfl rfl hg ?_
      refine zeKn (c := 1) rfl rfl rfl ?_
      exact zeRe rfl rfl rfl rfl rfl rfl
    | false =>
      have hc : 6 * c + 6 ≤ L := by
        have q := of_decide_eq_false hg
        rw [Int32.lt_iff_toInt_lt, sub6 hL, zoN (by omega)] at q
        omega
      obtain ⟨k, hk, ek⟩ := and63 (xs (6 * c))
      obtain ⟨m1, yy1, y5, y6, e1, e2, e3⟩ := lc_all (xs := xs) (yy := yy) (x5 := x5) (x6 := x6) hk h hc hL
      obtain ⟨M', b1, b2, b3⟩ := ih (c + 1) m1 yy1 y5 y6 (by omega) (by omega) e1
      refine ⟨M', ?_, ?_, ?_⟩
      · refine zeP rfl rfl ?_
        refine zeP rfl rfl ?_
        refine zeS (pc' := 27) (st' := [.int (Int32.ofNat L), .int (Int32.ofNat (6 * c))]) (M1 := (zS1, m, yy)) rfl rfl rfl ?_
        refine zeKn (c := 6) rfl rfl rfl ?_
        refine zeP rfl rfl ?_
        refine zeF2 rfl rfl hg ?_
        refine zeP rfl rfl ?_
        refine zeP rfl rfl ?_
        refine zeScr (k := 6 * c) (by omega) hL rfl ?_
        refine zeKn (c := 63) rfl rfl rfl ?_
        refine zeON (c := k) rfl rfl ek ?_
        refine e3 _ _ ?_
        refine zeDec (w := Int32.ofNat (6 * (c + 1))) rfl rfl (inc6 c) ?_
        refine zeP rfl rfl ?_
        exact b1
      · have := e2.1; omega
      · have := e2.2; omega
end ZLP
