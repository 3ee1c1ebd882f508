noncomputable def ltc (m : Nat → Nat → Int32) (b : Nat) : Nat := (m b 8 + Int32.ofNat 1).toNatClampNeg
noncomputable def LTC (m : Nat → Nat → Int32) (b : Nat) : Prop := m b 8 + Int32.ofNat 1 = Int32.ofNat (ltc m b) ∧ ltc m b ≤ 4
theorem nxc_eq {m : Nat → Nat → Int32} {b k N : Nat} (h : LTC m b) (hk : 1 ≤ k) (hk4 : k ≤ 4) (hN : N ≤ 4) : (m b 8 + Int32.ofNat k) - (m b 8 + Int32.ofNat k) / Int32.ofNat N * Int32.ofNat N = Int32.ofNat ((ltc m b + (k - 1)) % N) := by
  have e : m b 8 + Int32.ofNat k = Int32.ofNat (ltc m b + (k - 1)) := by
    have e1 : k = 1 + (k - 1) := by omega
    have e2 : Int32.ofNat k = Int32.ofNat 1 + Int32.ofNat (k - 1) := by rw [← Int32.ofNat_add, ← e1]
    rw [e2, ← Int32.add_assoc, h.1, ← Int32.ofNat_add]
  have := h.2
  rw [e, zremN (by omega) (by omega)]
noncomputable def xl_doneBits (m : Nat → Nat → Int32) (b : Nat) : Nat → Int32 → Nat → Int32
  | 0, s, k => s
  | n + 1, s, k => (bif zc1 .eq (x_sDone m b k) then (xl_doneBits m b n ((s ||| (Int32.ofNat 0))) ((k + 1))) else (xl_doneBits m b n ((s ||| ((Int32.ofNat 1) <<< ((Int32.ofNat k) &&& 31)))) ((k + 1))))
theorem xw_doneBits {σ : Nat → Nat × (Nat → Int32)} {yy : (Nat → Nat → Int64) × Bool × Nat × Nat} {m : Nat → Nat → Int32} {b : Nat} {d : Nat} (hd : 2 ≤ d + 1) (hb : BB b) (hc : CG m b) (hc4 : mv m b 5 ≤ 4) : ∀ (n : Nat) (s : Int32) (k : Nat), k + n = mv m b 5 → zEv σ (d + 1) 627 4 [some (.ref b), some (.int s), some (.int (Int32.ofNat k))] [] (zS1, m, yy) (.inl (some (.int (xl_doneBits m b n s k)))) (zS1, m, yy) := by
  intro n
  induction n with
  | zero =>
    intro s k hk
    refine zeP rfl rfl ?_
    refine zeP rfl rfl ?_
    refine zeGI rfl rfl (shM hb) rfl rfl ?_
    rw [hc.c]
    refine zeT2 rfl rfl (zcge (by omega) (by omega) (by omega)) ?_
    refine zeP rfl rfl ?_
    exact zeRe rfl rfl rfl rfl (by rfl) (by rfl)
  | succ n ih =>
    intro s k hk
    refine zeP rfl rfl ?_
    refine zeP rfl rfl ?_
    refine zeGI rfl rfl (shM hb) rfl rfl ?_
    rw [hc.c]
    refine zeF2 rfl rfl (zcge_f (by omega) (by omega) (by omega)) ?_
    refine zeP rfl rfl ?_
    refine zeP rfl rfl ?_
    refine zeP rfl rfl ?_
    refine zeCV rfl rfl rfl rfl (shM hb) rfl (xc_strandAt (m := m) (b := b) (t := k) hb (by omega)) (by omega) ?_
    dsimp only [Option.toList, List.cons_append, List.nil_append]
    refine zeCV rfl rfl rfl rfl (shS hb (by omega)) rfl (xc_sDone (m := m) (b := b) (t := k) hb (by omega)) (by omega) ?_
    dsimp only [Option.toList, List.cons_append, List.nil_append]
    refine zeB1 rfl rfl (fun h1 => ?_) (fun h1 => ?_)
    · refine zeKn (c := 0) rfl rfl rfl ?_
      refine zeP rfl rfl ?_
      refine zeP rfl rfl ?_
      refine zeInc rfl rfl ?_
      refine zeP rfl rfl ?_
      simp only [xl_doneBits, h1, cond_true, cond_false]
      exact ih ((s ||| (Int32.ofNat 0))) ((k + 1))   (by omega) 
    · refine zeKn (c := 1) rfl rfl rfl ?_
      refine zeP rfl rfl ?_
      refine zeP rfl rfl ?_
      refine zeP rfl rfl ?_
      refine zeP rfl rfl ?_
      refine zeP rfl rfl ?_
      refine zeInc rfl rfl ?_
      refine zeP rfl rfl ?_
      simp only [xl_doneBits, h1, cond_true, cond_false]
      exact ih ((s ||| ((Int32.ofNat 1) <<< ((Int32.ofNat k) &&& 31)))) ((k + 1))   (by omega) 
noncomputable def x_doneBits (m : Nat → Nat → Int32) (b : Nat) : Int32 := (xl_doneBits m b ((mv m b 5)) ((Int32.ofNat 0)) 0)
theorem xp_doneBits {σ : Nat → Nat × (Nat → Int32)} {yy : (Nat → Nat → Int64) × Bool × Nat × Nat} {m : Nat → Nat → Int32} {b : Nat} {d : Nat} (hd : 2 ≤ d + 1) (hb : BB b) (hc : CG m b) : zEv σ (d + 1) 627 0 [some (.ref b), none, none] [] (zS1, m, yy) (.inl (some (.int (x_doneBits m b)))) (zS1, m, yy) := by
  refine zeKn (c := 0) rfl rfl rfl ?_
  refine zeP rfl rfl ?_
  refine zeKn (c := 0) rfl rfl rfl ?_
  refine zeP rfl rfl ?_
  simp only [x_doneBits, cond_true, cond_false]
  exact xw_doneBits (b := b) (m := m) (by omega) hb hc hc.c4 ((mv m b 5)) ((Int32.ofNat 0)) (0)   (by omega) 
theorem xc_doneBits {σ : Nat → Nat × (Nat → Int32)} {yy : (Nat → Nat → Int64) × Bool × Nat × Nat} {m : Nat → Nat → Int32} {b : Nat} (hb : BB b) (hc : CG m b) : zF σ 2 627 [.ref b] (zS1, m, yy) (.inl (some (.int (x_doneBits m b)))) (zS1, m, yy) := by
  intro d hd
  obtain ⟨d, rfl⟩ : ∃ k, d = k + 1 := ⟨d - 1, by omega⟩
  exact xp_doneBits hd hb hc
noncomputable def xl_guessingBits (m : Nat → Nat → Int32) (b : Nat) : Nat → Int32 → Nat → Int32
  | 0, s, k => s
  | n + 1, s, k => (bif zc1 .eq (x_isGuessing m b k) then (xl_guessingBits m b n ((s ||| (Int32.ofNat 0))) ((k + 1))) else (xl_guessingBits m b n ((s ||| ((Int32.ofNat 1) <<< ((Int32.ofNat k) &&& 31)))) ((k + 1))))
theorem xw_guessingBits {σ : Nat → Nat × (Nat → Int32)} {yy : (Nat → Nat → Int64) × Bool × Nat × Nat} {m : Nat → Nat → Int32} {b : Nat} {d : Nat} (hd : 3 ≤ d + 1) (hb : BB b) (hc : CG m b) (hc4 : mv m b 5 ≤ 4) : ∀ (n : Nat) (s : Int32) (k : Nat), k + n = mv m b 5 → zEv σ (d + 1) 628 4 [some (.ref b), some (.int s), some (.int (Int32.ofNat k))] [] (zS1, m, yy) (.inl (some (.int (xl_guessingBits m b n s k)))) (zS1, m, yy) := by
  intro n
  induction n with
  | zero =>
    intro s k hk
    refine zeP rfl rfl ?_
    refine zeP rfl rfl ?_
    refine zeGI rfl rfl (shM hb) rfl rfl ?_
    rw [hc.c]
    refine zeT2 rfl rfl (zcge (by omega) (by omega) (by omega)) ?_
    refine zeP rfl rfl ?_
    exact zeRe rfl rfl rfl rfl (by rfl) (by rfl)
  | succ n ih =>
    intro s k hk
    refine zeP rfl rfl ?_
    refine zeP rfl rfl ?_
    refine zeGI rfl rfl (shM hb) rfl rfl ?_
    rw [hc.c]
    refine zeF2 rfl rfl (zcge_f (by omega) (by omega) (by omega)) ?_
    refine zeP rfl rfl ?_
    refine zeP rfl rfl ?_
    refine zeP rfl rfl ?_
    refine zeCV rfl rfl rfl rfl (shM hb) rfl (xc_isGuessing (m := m) (b := b) (t := k) hb (by omega)) (by omega) ?_
    dsimp only [Option.toList, List.cons_append, List.nil_append]
    refine zeB1 rfl rfl (fun h1 => ?_) (fun h1 => ?_)
    · refine zeKn (c := 0) rfl rfl rfl ?_
      refine zeP rfl rfl ?_
      refine zeP rfl rfl ?_
      refine zeInc rfl rfl ?_
      refine zeP rfl rfl ?_
      simp only [xl_guessingBits, h1, cond_true, cond_false]
      exact ih ((s ||| (Int32.ofNat 0))) ((k + 1))   (by omega) 
    · refine zeKn (c := 1) rfl rfl rfl ?_
      refine zeP rfl rfl ?_
      refine zeP rfl rfl ?_
      refine zeP rfl rfl ?_
      refine zeP rfl rfl ?_
      refine zeP rfl rfl ?_
      refine zeInc rfl rfl ?_
      refine zeP rfl rfl ?_
      simp only [xl_guessingBits, h1, cond_true, cond_false]
      exact ih ((s ||| ((Int32.ofNat 1) <<< ((Int32.ofNat k) &&& 31)))) ((k + 1))   (by omega) 
noncomputable def x_guessingBits (m : Nat → Nat → Int32) (b : Nat) : Int32 := (xl_guessingBits m b ((mv m b 5)) ((Int32.ofNat 0)) 0)
theorem xp_guessingBits {σ : Nat → Nat × (Nat → Int32)} {yy : (Nat → Nat → Int64) × Bool × Nat × Nat} {m : Nat → Nat → Int32} {b : Nat} {d : Nat} (hd : 3 ≤ d + 1) (hb : BB b) (hc : CG m b) : zEv σ (d + 1) 628 0 [some (.ref b), none, none] [] (zS1, m, yy) (.inl (some (.int (x_guessingBits m b)))) (zS1, m, yy) := by
  refine zeKn (c := 0) rfl rfl rfl ?_
  refine zeP rfl rfl ?_
  refine zeKn (c := 0) rfl rfl rfl ?_
  refine zeP rfl rfl ?_
  simp only [x_guessingBits, cond_true, cond_false]
  exact xw_guessingBits (b := b) (m := m) (by omega) hb hc hc.c4 ((mv m b 5)) ((Int32.ofNat 0)) (0)   (by omega) 
theorem xc_guessingBits {σ : Nat → Nat × (Nat → Int32)} {yy : (Nat → Nat → Int64) × Bool × Nat × Nat} {m : Nat → Nat → Int32} {b : Nat} (hb : BB b) (hc : CG m b) : zF σ 3 628 [.ref b] (zS1, m, yy) (.inl (some (.int (x_guessingBits m b)))) (zS1, m, yy) := by
  intro d hd
  obtain ⟨d, rfl⟩ : ∃ k, d = k + 1 := ⟨d - 1, by omega⟩
  exact xp_guessingBits hd hb hc
noncomputable def xl_allKept (m : Nat → Nat → Int32) (b : Nat) : Nat → Int32 → Nat → Int32
  | 0, s, k => s
  | n + 1, s, k => (xl_allKept m b n ((s + (m ((b + 10 + 7 * k)) 6))) ((k + 1)))
theorem xw_allKept {σ : Nat → Nat × (Nat → Int32)} {yy : (Nat → Nat → Int64) × Bool × Nat × Nat} {m : Nat → Nat → Int32} {b : Nat} {d : Nat} (hd : 2 ≤ d + 1) (hb : BB b) (hc : CG m b) (hc4 : mv m b 5 ≤ 4) : ∀ (n : Nat) (s : Int32) (k : Nat), k + n = mv m b 5 → zEv σ (d + 1) 630 4 [some (.ref b), some (.int s), some (.int (Int32.ofNat k))] [] (zS1, m, yy) (.inl (some (.int (xl_allKept m b n s k)))) (zS1, m, yy) := by
  intro n
  induction n with
  | zero =>
    intro s k hk
    refine zeP rfl rfl ?_
    refine zeP rfl rfl ?_
    refine zeGI rfl rfl (shM hb) rfl rfl ?_
    rw [hc.c]
    refine zeT2 rfl rfl (zcge (by omega) (by omega) (by omega)) ?_
    refine zeP rfl rfl ?_
    exact zeRe rfl rfl rfl rfl (by rfl) (by rfl)
  | succ n ih =>
    intro s k hk
    refine zeP rfl rfl ?_
    refine zeP rfl rfl ?_
    refine zeGI rfl rfl (shM hb) rfl rfl ?_
    rw [hc.c]
    refine zeF2 rfl rfl (zcge_f (by omega) (by omega) (by omega)) ?_
    refine zeP rfl rfl ?_
    refine zeP rfl rfl ?_
    refine zeP rfl rfl ?_
    refine zeCV rfl rfl rfl rfl (shM hb) rfl (xc_strandAt (m := m) (b := b) (t := k) hb (by omega)) (by omega) ?_
    dsimp only [Option.toList, List.cons_append, List.nil_append]
    refine zeGI rfl rfl (shS hb (by omega)) rfl rfl ?_
    refine zeP rfl rfl ?_
    refine zeP rfl rfl ?_
    refine zeInc rfl rfl ?_
    refine zeP rfl rfl ?_
    simp only [xl_allKept, cond_true, cond_false]
    exact ih ((s + (m ((b + 10 + 7 * k)) 6))) ((k + 1))   (by omega) 
noncomputable def x_allKept (m : Nat → Nat → Int32) (b : Nat) : Int32 := (xl_allKept m b ((mv m b 5)) ((Int32.ofNat 0)) 0)
theorem xp_allKept {σ : Nat → Nat × (Nat → Int32)} {yy : (Nat → Nat → Int64) × Bool × Nat × Nat} {m : Nat → Nat → Int32} {b : Nat} {d : Nat} (hd : 2 ≤ d + 1) (hb : BB b) (hc : CG m b) : zEv σ (d + 1) 630 0 [some (.ref b), none, none] [] (zS1, m, yy) (.inl (some (.int (x_allKept m b)))) (zS1, m, yy) := by
  refine zeKn (c := 0) rfl rfl rfl ?_
  refine zeP rfl rfl ?_
  refine zeKn (c := 0) rfl rfl rfl ?_
  refine zeP rfl rfl ?_
  simp only [x_allKept, cond_true, cond_false]
  exact xw_allKept (b := b) (m := m) (by omega) hb hc hc.c4 ((mv m b 5)) ((Int32.ofNat 0)) (0)   (by omega) 
theorem xc_allKept {σ : Nat → Nat × (Nat → Int32)} {yy : (Nat → Nat → Int64) × Bool × Nat × Nat} {m : Nat → Nat → Int32} {b : Nat} (hb : BB b) (hc : CG m b) : zF σ 2 630 [.ref b] (zS1, m, yy) (.inl (some (.int (x_allKept m b)))) (zS1, m, yy) := by
  intro d hd
  obtain ⟨d, rfl⟩ : ∃ k, d = k + 1 := ⟨d - 1, by omega⟩
  exact xp_allKept hd hb hc
noncomputable def xl_leavingOut (m : Nat → Nat → Int32) (b : Nat) (l : Int32) : Nat → Nat → Nat → Int32
  | 0, c, k => (Int32.ofNat c)
  | n + 1, c, k => (bif zc1 .eq (x_leavesOut m b k l) then (xl_leavingOut m b l n c ((k + 1))) else (xl_leavingOut m b l n ((c + 1)) ((k + 1))))
theorem xw_leavingOut {σ : Nat → Nat × (Nat → Int32)} {yy : (Nat → Nat → Int64) × Bool × Nat × Nat} {m : Nat → Nat → Int32} {b : Nat} {l : Int32} {d : Nat} (hd : 2 ≤ d + 1) (hb : BB b) (hc : CG m b) (hc4 : mv m b 5 ≤ 4) : ∀ (n : Nat) (c : Nat) (k : Nat), k + n = mv m b 5 → zEv σ (d + 1) 626 4 [some (.ref b), some (.int l), some (.int (Int32.ofNat c)), some (.int (Int32.ofNat k))] [] (zS1, m, yy) (.inl (some (.int (xl_leavingOut m b l n c k)))) (zS1, m, yy) := by
  intro n
  induction n with
  | zero =>
    intro c k hk
    refine zeP rfl rfl ?_
    refine zeP rfl rfl ?_
    refine zeGI rfl rfl (shM hb) rfl rfl ?_
    rw [hc.c]
    refine zeT2 rfl rfl (zcge (by omega) (by omega) (by omega)) ?_
    refine zeP rfl rfl ?_
    exact zeRe rfl rfl rfl rfl (by rfl) (by rfl)
  | succ n ih =>
    intro c k hk
    refine zeP rfl rfl ?_
    refine zeP rfl rfl ?_
    refine zeGI rfl rfl (shM hb) rfl rfl ?_
    rw [hc.c]
    refine zeF2 rfl rfl (zcge_f (by omega) (by omega) (by omega)) ?_
    refine zeP rfl rfl ?_
    refine zeP rfl rfl ?_
    refine zeCV rfl rfl rfl rfl (shM hb) rfl (xc_strandAt (m := m) (b := b) (t := k) hb (by omega)) (by omega) ?_
    dsimp only [Option.toList, List.cons_append, List.nil_append]
    refine zeGR rfl rfl (shS hb (by omega)) rfl rfl ?_
    refine zeP rfl rfl ?_
    refine zeCV rfl rfl rfl rfl (shG hb (by omega)) rfl (xc_leavesOut (m := m) (b := b) (t := k) (l := l) hb (by omega) (hc.q (by omega)) (hc.q4 (by omega))) (by omega) ?_
    dsimp only [Option.toList, List.cons_append, List.nil_append]
    refine zeB1 rfl rfl (fun h1 => ?_) (fun h1 => ?_)
    · refine zeInc rfl rfl ?_
      refine zeP rfl rfl ?_
      simp only [xl_leavingOut, h1, cond_true, cond_false]
      exact ih (c) ((k + 1))   (by omega) 
    · refine zeInc rfl rfl ?_
      refine zeInc rfl rfl ?_
      refine zeP rfl rfl ?_
      simp only [xl_leavingOut, h1, cond_true, cond_false]
      exact ih ((c + 1)) ((k + 1))   (by omega) 
noncomputable def x_leavingOut (m : Nat → Nat → Int32) (b : Nat) (l : Int32) : Int32 := (xl_leavingOut m b l ((mv m b 5)) 0 0)
theorem xp_leavingOut {σ : Nat → Nat × (Nat → Int32)} {yy : (Nat → Nat → Int64) × Bool × Nat × Nat} {m : Nat → Nat → Int32} {b : Nat} {l : Int32} {d : Nat} (hd : 2 ≤ d + 1) (hb : BB b) (hc : CG m b) : zEv σ (d + 1) 626 0 [some (.ref b), some (.int l), none, none] [] (zS1, m, yy) (.inl (some (.int (x_leavingOut m b l)))) (zS1, m, yy) := by
  refine zeKn (c := 0) rfl rfl rfl ?_
  refine zeP rfl rfl ?_
  refine zeKn (c := 0) rfl rfl rfl ?_
  refine zeP rfl rfl ?_
  simp only [x_leavingOut, cond_true, cond_false]
  exact xw_leavingOut (b := b) (l := l) (m := m) (by omega) hb hc hc.c4 ((mv m b 5)) (0) (0)   (by omega) 
theorem xc_leavingOut {σ : Nat → Nat × (Nat → Int32)} {yy : (Nat → Nat → Int64) × Bool × Nat × Nat} {m : Nat → Nat → Int32} {b : Nat} {l : Int32} (hb : BB b) (hc : CG m b) : zF σ 2 626 [.ref b, .int l] (zS1, m, yy) (.inl (some (.int (x_leavingOut m b l)))) (zS1, m, yy) := by
  intro d hd
  obtain ⟨d, rfl⟩ : ∃ k, d = k + 1 := ⟨d - 1, by omega⟩
  exact xp_leavingOut hd hb hc
noncomputable def xl_lockBits (m : Nat → Nat → Int32) (b : Nat) : Nat → Int32 → Nat → Int32
  | 0, s, k => s
  | n + 1, s, k => (bif zc1 .eq (m ((b + 1)) ((mv m (b + 5 + k) 0))) then (xl_lockBits m b n ((s ||| (Int32.ofNat 0))) ((k + 1))) else (xl_lockBits m b n ((s ||| ((Int32.ofNat 1) <<< ((Int32.ofNat k) &&& 31)))) ((k + 1))))
theorem xw_lockBits {σ : Nat → Nat × (Nat → Int32)} {yy : (Nat → Nat → Int64) × Bool × Nat × Nat} {m : Nat → Nat → Int32} {b : Nat} {d : Nat} (hd : 2 ≤ d + 1) (hb : BB b) (hc : CG m b) : ∀ (n : Nat) (s : Int32) (k : Nat), k + n = 4 → zEv σ (d + 1) 629 4 [some (.ref b), some (.int s), some (.int (Int32.ofNat k))] [] (zS1, m, yy) (.inl (some (.int (xl_lockBits m b n s k)))) (zS1, m, yy) := by
  intro n
  induction n with
  | zero =>
    intro s k hk
    refine zeP rfl rfl ?_
    refine zeKn (c := 4) rfl rfl rfl ?_
    refine zeT2 rfl rfl (zcge (by omega) (by omega) (by omega)) ?_
    refine zeP rfl rfl ?_
    exact zeRe rfl rfl rfl rfl (by rfl) (by rfl)
  | succ n ih =>
    intro s k hk
    refine zeP rfl rfl ?_
    refine zeKn (c := 4) rfl rfl rfl ?_
    refine zeF2 rfl rfl (zcge_f (by omega) (by omega) (by omega)) ?_
    refine zeP rfl rfl ?_
    refine zeP rfl rfl ?_
    refine zeGR rfl rfl (shM hb) rfl rfl ?_
    refine zeP rfl rfl ?_
    refine zeP rfl rfl ?_
    refine zeCV rfl rfl rfl rfl (shM hb) rfl (xc_lockAt (m := m) (b := b) (l := k) hb (by omega)) (by omega) ?_
    dsimp only [Option.toList, List.cons_append, List.nil_append]
    refine zeGI rfl rfl (shL hb (by omega)) rfl rfl ?_
    rw [(hc.w (l := k) (by omega)).1]
    refine zeKn (c := 31) rfl rfl rfl ?_
    refine zeON (c := (mv m (b + 5 + k) 0)) rfl rfl (zand31 _ (hc.w32 (l := k) (by omega))) ?_
    refine zeAL (k := (mv m (b + 5 + k) 0)) rfl (bb1000 hb (by omega)) (shW hb) rfl (hc.w32 (l := k) (by omega)) ?_
    refine zeB1 rfl rfl (fun h1 => ?_) (fun h1 => ?_)
    · refine zeKn (c := 0) rfl rfl rfl ?_
      refine zeP rfl rfl ?_
      refine zeP rfl rfl ?_
      refine zeInc rfl rfl ?_
      refine zeP rfl rfl ?_
      simp only [xl_lockBits, h1, cond_true, cond_false]
      exact ih ((s ||| (Int32.ofNat 0))) ((k + 1))   (by omega) 
    · refine zeKn (c := 1) rfl rfl rfl ?_
      refine zeP rfl rfl ?_
      refine zeP rfl rfl ?_
      refine zeP rfl rfl ?_
      refine zeP rfl rfl ?_
      refine zeP rfl rfl ?_
      refine zeInc rfl rfl ?_
      refine zeP rfl rfl ?_
      simp only [xl_lockBits, h1, cond_true, cond_false]
      exact ih ((s ||| ((Int32.ofNat 1) <<< ((Int32.ofNat k) &&& 31)))) ((k + 1))   (by omega) 
noncomputable def x_lockBits (m : Nat → Nat → Int32) (b : Nat) : Int32 := (xl_lockBits m b 4 ((Int32.ofNat 0)) 0)
theorem xp_lockBits {σ : Nat → Nat × (Nat → Int32)} {yy : (Nat → Nat → Int64) × Bool × Nat × Nat} {m : Nat → Nat → Int32} {b : Nat} {d : Nat} (hd : 2 ≤ d + 1) (hb : BB b) (hc : CG m b) : zEv σ (d + 1) 629 0 [some (.ref b), none, none] [] (zS1, m, yy) (.inl (some (.int (x_lockBits m b)))) (zS1, m, yy) := by
  refine zeKn (c := 0) rfl rfl rfl ?_
  refine zeP rfl rfl ?_
  refine zeKn (c := 0) rfl rfl rfl ?_
  refine zeP rfl rfl ?_
  simp only [x_lockBits, cond_true, cond_false]
  exact xw_lockBits (b := b) (m := m) (by omega) hb hc 4 ((Int32.ofNat 0)) (0)   (by omega) 
theorem xc_lockBits {σ : Nat → Nat × (Nat → Int32)} {yy : (Nat → Nat → Int64) × Bool × Nat × Nat} {m : Nat → Nat → Int32} {b : Nat} (hb : BB b) (hc : CG m b) : zF σ 2 629 [.ref b] (zS1, m, yy) (.inl (some (.int (x_lockBits m b)))) (zS1, m, yy) := by
  intro d hd
  obtain ⟨d, rfl⟩ : ∃ k, d = k + 1 := ⟨d - 1, by omega⟩
  exact xp_lockBits hd hb hc
noncomputable def xl_allFalls (m : Nat → Nat → Int32) (b : Nat) (t : Nat) : Nat → Int32 → Nat → Int32
  | 0, s, k => s
  | n + 1, s, k => (xl_allFalls m b t n ((s + (m ((b + 13 + 7 * t)) k))) ((k + 1)))
theorem xw_allFalls {σ : Nat → Nat × (Nat → Int32)} {yy : (Nat → Nat → Int64) × Bool × Nat × Nat} {m : Nat → Nat → Int32} {b : Nat} {t : Nat} {d : Nat} (hd : 1 ≤ d + 1) (hb : BB b) (ht : t < 4) : ∀ (n : Nat) (s : Int32) (k : Nat), k + n = 5 → zEv σ (d + 1) 1207 4 [some (.ref (b + 10 + 7 * t)), some (.int s), some (.int (Int32.ofNat k))] [] (zS1, m, yy) (.inl (some (.int (xl_allFalls m b t n s k)))) (zS1, m, yy) := by
  intro n
  induction n with
  | zero =>
    intro s k hk
    refine zeP rfl rfl ?_
    refine zeKn (c := 5) rfl rfl rfl ?_
    refine zeT2 rfl rfl (zcge (by omega) (by omega) (by omega)) ?_
    refine zeP rfl rfl ?_
    exact zeRe rfl rfl rfl rfl (by rfl) (by rfl)
  | succ n ih =>
    intro s k hk
    refine zeP rfl rfl ?_
    refine zeKn (c := 5) rfl rfl rfl ?_
    refine zeF2 rfl rfl (zcge_f (by omega) (by omega) (by omega)) ?_
    refine zeP rfl rfl ?_
    refine zeP rfl rfl ?_
    refine zeGR rfl rfl (shS hb (by omega)) rfl rfl ?_
    refine zeP rfl rfl ?_
    refine zeAL (k := k) rfl (bbl hb (by omega) (by omega)) (shF hb (by omega)) rfl (by omega) ?_
    refine zeP rfl rfl ?_
    refine zeP rfl rfl ?_
    refine zeInc rfl rfl ?_
    refine zeP rfl rfl ?_
    simp only [xl_allFalls, cond_true, cond_false]
    exact ih ((s + (m ((b + 13 + 7 * t)) k))) ((k + 1))   (by omega) 
noncomputable def x_allFalls (m : Nat → Nat → Int32) (b : Nat) (t : Nat) : Int32 := (xl_allFalls m b t 5 ((Int32.ofNat 0)) 0)
theorem xp_allFalls {σ : Nat → Nat × (Nat → Int32)} {yy : (Nat → Nat → Int64) × Bool × Nat × Nat} {m : Nat → Nat → Int32} {b : Nat} {t : Nat} {d : Nat} (hd : 1 ≤ d + 1) (hb : BB b) (ht : t < 4) : zEv σ (d + 1) 1207 0 [some (.ref (b + 10 + 7 * t)), none, none] [] (zS1, m, yy) (.inl (some (.int (x_allFalls m b t)))) (zS1, m, yy) := by
  refine zeKn (c := 0) rfl rfl rfl ?_
  refine zeP rfl rfl ?_
  refine zeKn (c := 0) rfl rfl rfl ?_
  refine zeP rfl rfl ?_
  simp only [x_allFalls, cond_true, cond_false]
  exact xw_allFalls (b := b) (t := t) (m := m) (by omega) (by first | assumption | omega) (by first | assumption | omega) 5 ((Int32.ofNat 0)) (0)   (by omega) 
theorem xc_allFalls {σ : Nat → Nat × (Nat → Int32)} {yy : (Nat → Nat → Int64) × Bool × Nat × Nat} {m : Nat → Nat → Int32} {b : Nat} {t : Nat} (hb : BB b) (ht : t < 4) : zF σ 1 1207 [.ref (b + 10 + 7 * t)] (zS1, m, yy) (.inl (some (.int (x_allFalls m b t)))) (zS1, m, yy) := by
  intro d hd
  obtain ⟨d, rfl⟩ : ∃ k, d = k + 1 := ⟨d - 1, by omega⟩
  exact xp_allFalls hd hb ht
noncomputable def xl_nextByTurn (m : Nat → Nat → Int32) (b : Nat) : Nat → Nat → Int32
  | 0, k => (-1)
  | n + 1, k => (bif zc1 .ne (x_sDone m b ((((ltc m b + (k - 1)) % mv m b 5)))) then (xl_nextByTurn m b n ((k + 1))) else (Int32.ofNat ((ltc m b + (k - 1)) % mv m b 5)))
theorem xw_nextByTurn {σ : Nat → Nat × (Nat → Int32)} {yy : (Nat → Nat → Int64) × Bool × Nat × Nat} {m : Nat → Nat → Int32} {b : Nat} {d : Nat} (hd : 2 ≤ d + 1) (hb : BB b) (hc : CG m b) (hc4 : mv m b 5 ≤ 4) (hL : LTC m b) : ∀ (n : Nat) (k : Nat) (x2 : Option Value), k + n = mv m b 5 + 1 → 1 ≤ k → zEv σ (d + 1) 608 2 [some (.ref b), some (.int (Int32.ofNat k)), x2] [] (zS1, m, yy) (.inl (some (.int (xl_nextByTurn m b n k)))) (zS1, m, yy) := by
  intro n
  induction n with
  | zero =>
    intro k x2 hk hk1
    refine zeP rfl rfl ?_
    refine zeP rfl rfl ?_
    refine zeGI rfl rfl (shM hb) rfl rfl ?_
    rw [hc.c]
    refine zeT2 rfl rfl (zcgt (by omega) (by omega) (by omega)) ?_
    refine zeK (v := -1) rfl rfl rfl ?_
    exact zeRe rfl rfl rfl rfl (by rfl) (by rfl)
  | succ n ih =>
    intro k x2 hk hk1
    refine zeP rfl rfl ?_
    refine zeP rfl rfl ?_
    refine zeGI rfl rfl (shM hb) rfl rfl ?_
    rw [hc.c]
    refine zeF2 rfl rfl (zcgt_f (by omega) (by omega) (by omega)) ?_
    refine zeP rfl rfl ?_
    refine zeGI rfl rfl (shM hb) rfl rfl ?_
    refine zeP rfl rfl ?_
    refine zeP rfl rfl ?_
    refine zeP rfl rfl ?_
    refine zeGI rfl rfl (shM hb) rfl rfl ?_
    rw [hc.c]
    refine zeRem rfl (zon0 (by omega) (by omega)) ?_
    rw [nxc_eq hL hk1 (by omega) hc4]
    refine zeP rfl rfl ?_
    have hmod : ((ltc m b + (k - 1)) % mv m b 5) < 4 := Nat.lt_of_lt_of_le (Nat.mod_lt _ (by omega)) hc4
    refine zeP rfl rfl ?_
    refine zeP rfl rfl ?_
    refine zeCV rfl rfl rfl rfl (shM hb) rfl (xc_strandAt (m := m) (b := b) (t := ((ltc m b + (k - 1)) % mv m b 5)) hb hmod) (by omega) ?_
    dsimp only [Option.toList, List.cons_append, List.nil_append]
    refine zeCV rfl rfl rfl rfl (shS hb (by omega)) rfl (xc_sDone (m := m) (b := b) (t := (((ltc m b + (k - 1)) % mv m b 5))) hb hmod) (by omega) ?_
    dsimp only [Option.toList, List.cons_append, List.nil_append]
    refine zeB1 rfl rfl (fun h1 => ?_) (fun h1 => ?_)
    · refine zeInc rfl rfl ?_
      refine zeP rfl rfl ?_
      simp only [xl_nextByTurn, h1, cond_true, cond_false]
      exact ih ((k + 1)) (some (.int (Int32.ofNat ((ltc m b + (k - 1)) % mv m b 5))))   (by omega) (by first | assumption | omega)
    · refine zeP rfl rfl ?_
      exact zeRe rfl rfl rfl rfl (by simp only [xl_nextByTurn, h1, cond_true, cond_false] <;> rfl) (by simp only [xl_nextByTurn, h1, cond_true, cond_false] <;> rfl)
noncomputable def x_nextByTurn (m : Nat → Nat → Int32) (b : Nat) : Int32 := (xl_nextByTurn m b ((mv m b 5)) 1)
theorem xp_nextByTurn {σ : Nat → Nat × (Nat → Int32)} {yy : (Nat → Nat → Int64) × Bool × Nat × Nat} {m : Nat → Nat → Int32} {b : Nat} {d : Nat} (hd : 2 ≤ d + 1) (hb : BB b) (hc : CG m b) (hL : LTC m b) : zEv σ (d + 1) 608 0 [some (.ref b), none, none] [] (zS1, m, yy) (.inl (some (.int (x_nextByTurn m b)))) (zS1, m, yy) := by
  refine zeKn (c := 1) rfl rfl rfl ?_
  refine zeP rfl rfl ?_
  simp only [x_nextByTurn, cond_true, cond_false]
  exact xw_nextByTurn (b := b) (m := m) (by omega) hb hc hc.c4 hL ((mv m b 5)) (1) (none)   (by omega) (by omega)
theorem xc_nextByTurn {σ : Nat → Nat × (Nat → Int32)} {yy : (Nat → Nat → Int64) × Bool × Nat × Nat} {m : Nat → Nat → Int32} {b : Nat} (hb : BB b) (hc : CG m b) (hL : LTC m b) : zF σ 2 608 [.ref b] (zS1, m, yy) (.inl (some (.int (x_nextByTurn m b)))) (zS1, m, yy) := by
  intro d hd
  obtain ⟨d, rfl⟩ : ∃ k, d = k + 1 := ⟨d - 1, by omega⟩
  exact xp_nextByTurn hd hb hc hL
