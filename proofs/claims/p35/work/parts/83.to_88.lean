/-! 83.cls 84.cls 85.cls 86.cls 87.cpure 88.cls -/
section
theorem c1le {q : Nat} (hq : q < 2147483648) (h : zc1 .le (Int32.ofNat q) = false) : 1 ≤ q := by
  have h1 := of_decide_eq_false h
  rw [Int32.le_iff_toInt_le, zoN hq, Int32.toInt_zero] at h1
  omega
theorem mx1 {x : Int32} : ¬ (if Int32.ofNat 1 < x then x else Int32.ofNat 1) = 0 := by
  split
  · rename_i h
    rw [Int32.lt_iff_toInt_lt] at h
    intro e
    rw [e] at h
    exact absurd h (by decide)
  · decide
theorem zxn {m m' : Nat → Nat → Int32} {a k : Nat} (e : m' a k = m a k) (h : m a k = Int32.ofNat (mv m a k)) : m' a k = Int32.ofNat (mv m' a k) := by
  unfold mv at *
  rw [e]; exact h
theorem zxb {m m' : Nat → Nat → Int32} {a k c : Nat} (e : m' a k = m a k) (h : mv m a k < c) : mv m' a k < c := by
  unfold mv at *
  rw [e]; exact h
theorem zand31 : ∀ w, w < 32 → Int32.ofNat w &&& Int32.ofNat 31 = Int32.ofNat w := by decide +kernel
theorem close_ne {m : Nat → Nat → Int32} {b t i l : Nat} (h : i ≠ b + 14 + 7 * t) : x_close m b t i l = m i l := by
  unfold x_close
  rw [zx_ne _ _ _ h, zx_ne _ _ _ h, zx_ne _ _ _ h, zx_ne _ _ _ h, zx_ne _ _ _ h]
theorem lose_ne {m : Nat → Nat → Int32} {b t i l : Nat} {x : Int32} (h : i ≠ b + 5 + t) : x_lose m b t x i l = m i l := by
  unfold x_lose
  exact cndi (fun q : Nat → Nat → Int32 => q i l = m i l) (zx_ne _ _ _ h) (zx_ne _ _ _ h)
theorem gain_ne {m : Nat → Nat → Int32} {b t i l : Nat} {x : Int32} (h : i ≠ b + 5 + t) : x_gain m b t x i l = m i l := by
  unfold x_gain
  exact cndi (fun q : Nat → Nat → Int32 => q i l = m i l) (zx_ne _ _ _ h) (zx_ne _ _ _ h)
noncomputable def x_leaveOut (m : Nat → Nat → Int32) (b : Nat) (t : Nat) (l : Int32) : (Nat → Nat → Int32) := (bif zc2 .ge (Int32.ofNat (mv m (b + 14 + 7 * t) 5)) (Int32.ofNat 4) then m else (zm2 ((zm2 m ((b + 15 + 7 * t)) ((mv m (b + 14 + 7 * t) 5)) l)) ((b + 14 + 7 * t)) 5 ((((zm2 m ((b + 15 + 7 * t)) ((mv m (b + 14 + 7 * t) 5)) l)) ((b + 14 + 7 * t)) 5) + (Int32.ofNat 1))))
theorem xp_leaveOut {σ : Nat → Nat × (Nat → Int32)} {yy : (Nat → Nat → Int64) × Bool × Nat × Nat} {m : Nat → Nat → Int32} {b : Nat} {t : Nat} {l : Int32} {d : Nat} (hd : 1 ≤ d + 1) (hb : BB b) (ht : t < 4) (hq : m (b + 14 + 7 * t) 5 = Int32.ofNat (mv m (b + 14 + 7 * t) 5)) (hq4 : mv m (b + 14 + 7 * t) 5 ≤ 4) : zEv σ (d + 1) 5 0 [some (.ref (b + 14 + 7 * t)), some (.int l)] [] (zS1, m, yy) (.inl none) (zS1, ((x_leaveOut m b t l)), yy) := by
  refine zeP rfl rfl ?_
  refine zeGI rfl rfl (shG hb (by omega)) rfl rfl ?_
  rw [hq]
  refine zeKn (c := 4) rfl rfl rfl ?_
  refine zeB2 rfl rfl (fun h1 => ?_) (fun h1 => ?_)
  · exact zeRe rfl rfl rfl rfl (by simp only [x_leaveOut, h1, cond_true, cond_false] <;> rfl) (by simp only [x_leaveOut, h1, cond_true, cond_false] <;> rfl)
  · refine zeP rfl rfl ?_
    refine zeGR rfl rfl (shG hb (by omega)) rfl rfl ?_
    refine zeP rfl rfl ?_
    refine zeGI rfl rfl (shG hb (by omega)) rfl rfl ?_
    rw [hq]
    refine zeP rfl rfl ?_
    refine zeAS (k := (mv m (b + 14 + 7 * t) 5)) rfl (shO hb (by omega)) rfl (zge_lt (by omega) (by omega) (by assumption)) ?_
    refine zeP rfl rfl ?_
    refine zeP rfl rfl ?_
    refine zeGI rfl rfl (shG hb (by omega)) rfl rfl ?_
    refine zeKn (c := 1) rfl rfl rfl ?_
    refine zeP rfl rfl ?_
    refine zePI rfl rfl (shG hb (by omega)) rfl ?_
    exact zeRe rfl rfl rfl rfl (by simp only [x_leaveOut, h1, cond_true, cond_false] <;> rfl) (by simp only [x_leaveOut, h1, cond_true, cond_false] <;> rfl)
theorem xc_leaveOut {σ : Nat → Nat × (Nat → Int32)} {yy : (Nat → Nat → Int64) × Bool × Nat × Nat} {m : Nat → Nat → Int32} {b : Nat} {t : Nat} {l : Int32} (hb : BB b) (ht : t < 4) (hq : m (b + 14 + 7 * t) 5 = Int32.ofNat (mv m (b + 14 + 7 * t) 5)) (hq4 : mv m (b + 14 + 7 * t) 5 ≤ 4) : zF σ 1 5 [.ref (b + 14 + 7 * t), .int l] (zS1, m, yy) (.inl none) (zS1, ((x_leaveOut m b t l)), yy) := by
  intro d hd
  obtain ⟨d, rfl⟩ : ∃ k, d = k + 1 := ⟨d - 1, by omega⟩
  exact xp_leaveOut hd hb ht hq hq4
noncomputable def x_latest (m : Nat → Nat → Int32) (b : Nat) (t : Nat) : Int32 := (bif zc1 .le (Int32.ofNat (mv m (b + 14 + 7 * t) 5)) then (-1) else (bif zc2 .gt (Int32.ofNat (mv m (b + 14 + 7 * t) 5)) (Int32.ofNat 4) then (-1) else (m ((b + 15 + 7 * t)) (((mv m (b + 14 + 7 * t) 5) - 1)))))
theorem xp_latest {σ : Nat → Nat × (Nat → Int32)} {yy : (Nat → Nat → Int64) × Bool × Nat × Nat} {m : Nat → Nat → Int32} {b : Nat} {t : Nat} {d : Nat} (hd : 1 ≤ d + 1) (hb : BB b) (ht : t < 4) (hq : m (b + 14 + 7 * t) 5 = Int32.ofNat (mv m (b + 14 + 7 * t) 5)) (hq4 : mv m (b + 14 + 7 * t) 5 ≤ 4) : zEv σ (d + 1) 6 0 [some (.ref (b + 14 + 7 * t))] [] (zS1, m, yy) (.inl (some (.int (x_latest m b t)))) (zS1, m, yy) := by
  refine zeP rfl rfl ?_
  refine zeGI rfl rfl (shG hb (by omega)) rfl rfl ?_
  rw [hq]
  refine zeB1 rfl rfl (fun h1 => ?_) (fun h1 => ?_)
  · refine zeK (v := -1) rfl rfl rfl ?_
    exact zeRe rfl rfl rfl rfl (by simp only [x_latest, h1, cond_true, cond_false] <;> rfl) (by simp only [x_latest, h1, cond_true, cond_false] <;> rfl)
  · refine zeP rfl rfl ?_
    refine zeGI rfl rfl (shG hb (by omega)) rfl rfl ?_
    rw [hq]
    refine zeKn (c := 4) rfl rfl rfl ?_
    refine zeB2 rfl rfl (fun h2 => ?_) (fun h2 => ?_)
    · refine zeK (v := -1) rfl rfl rfl ?_
      exact zeRe rfl rfl rfl rfl (by simp only [x_latest, h1, h2, cond_true, cond_false] <;> rfl) (by simp only [x_latest, h1, h2, cond_true, cond_false] <;> rfl)
    · refine zeP rfl rfl ?_
      refine zeGR rfl rfl (shG hb (by omega)) rfl rfl ?_
      refine zeP rfl rfl ?_
      refine zeGI rfl rfl (shG hb (by omega)) rfl rfl ?_
      rw [hq]
      refine zeKn (c := 1) rfl rfl rfl ?_
      refine zeSub rfl (c1le (by omega) (by assumption)) ?_
      refine zeAL (k := ((mv m (b + 14 + 7 * t) 5) - 1)) rfl (bbl hb (by omega) (by omega)) (shO hb (by omega)) rfl (by have := c1le (q := mv m (b + 14 + 7 * t) 5) (by omega) (by assumption); omega) ?_
      refine zeP rfl rfl ?_
      exact zeRe rfl rfl rfl rfl (by simp only [x_latest, h1, h2, cond_true, cond_false] <;> rfl) (by simp only [x_latest, h1, h2, cond_true, cond_false] <;> rfl)
theorem xc_latest {σ : Nat → Nat × (Nat → Int32)} {yy : (Nat → Nat → Int64) × Bool × Nat × Nat} {m : Nat → Nat → Int32} {b : Nat} {t : Nat} (hb : BB b) (ht : t < 4) (hq : m (b + 14 + 7 * t) 5 = Int32.ofNat (mv m (b + 14 + 7 * t) 5)) (hq4 : mv m (b + 14 + 7 * t) 5 ≤ 4) : zF σ 1 6 [.ref (b + 14 + 7 * t)] (zS1, m, yy) (.inl (some (.int (x_latest m b t)))) (zS1, m, yy) := by
  intro d hd
  obtain ⟨d, rfl⟩ : ∃ k, d = k + 1 := ⟨d - 1, by omega⟩
  exact xp_latest hd hb ht hq hq4
noncomputable def xl_leavesOut (m : Nat → Nat → Int32) (b : Nat) (t : Nat) (l : Int32) : Nat → Nat → Int32
  | 0, k => (Int32.ofNat 0)
  | n + 1, k => (bif zc2 .ne (m ((b + 15 + 7 * t)) k) l then (xl_leavesOut m b t l n ((k + 1))) else (Int32.ofNat 1))
theorem xw_leavesOut {σ : Nat → Nat × (Nat → Int32)} {yy : (Nat → Nat → Int64) × Bool × Nat × Nat} {m : Nat → Nat → Int32} {b : Nat} {t : Nat} {l : Int32} {d : Nat} (hd : 1 ≤ d + 1) (hb : BB b) (ht : t < 4) (hq : m (b + 14 + 7 * t) 5 = Int32.ofNat (mv m (b + 14 + 7 * t) 5)) (hq4 : mv m (b + 14 + 7 * t) 5 ≤ 4) : ∀ (n : Nat) (k : Nat), k + n = mv m (b + 14 + 7 * t) 5 → zEv σ (d + 1) 4 2 [some (.ref (b + 14 + 7 * t)), some (.int l), some (.int (Int32.ofNat k))] [] (zS1, m, yy) (.inl (some (.int (xl_leavesOut m b t l n k)))) (zS1, m, yy) := by
  intro n
  induction n with
  | zero =>
    intro k hk
    refine zeP rfl rfl ?_
    refine zeP rfl rfl ?_
    refine zeGI rfl rfl (shG hb (by omega)) rfl rfl ?_
    rw [hq]
    refine zeT2 rfl rfl (zcge (by omega) (by omega) (by omega)) ?_
    refine zeKn (c := 0) rfl rfl rfl ?_
    exact zeRe rfl rfl rfl rfl (by rfl) (by rfl)
  | succ n ih =>
    intro k hk
    refine zeP rfl rfl ?_
    refine zeP rfl rfl ?_
    refine zeGI rfl rfl (shG hb (by omega)) rfl rfl ?_
    rw [hq]
    refine zeF2 rfl rfl (zcge_f (by omega) (by omega) (by omega)) ?_
    refine zeP rfl rfl ?_
    refine zeKn (c := 4) rfl rfl rfl ?_
    refine zeF2 rfl rfl (zcge_f (by omega) (by omega) (by omega)) ?_
    refine zeP rfl rfl ?_
    refine zeGR rfl rfl (shG hb (by omega)) rfl rfl ?_
    refine zeP rfl rfl ?_
    refine zeAL (k := k) rfl (bbl hb (by omega) (by omega)) (shO hb (by omega)) rfl (by omega) ?_
    refine zeP rfl rfl ?_
    refine zeB2 rfl rfl (fun h1 => ?_) (fun h1 => ?_)
    · refine zeInc rfl rfl ?_
      refine zeP rfl rfl ?_
      simp only [xl_leavesOut, h1, cond_true, cond_false]
      exact ih ((k + 1))   (by omega) 
    · refine zeKn (c := 1) rfl rfl rfl ?_
      exact zeRe rfl rfl rfl rfl (by simp only [xl_leavesOut, h1, cond_true, cond_false] <;> rfl) (by simp only [xl_leavesOut, h1, cond_true, cond_false] <;> rfl)
noncomputable def x_leavesOut (m : Nat → Nat → Int32) (b : Nat) (t : Nat) (l : Int32) : Int32 := (xl_leavesOut m b t l ((mv m (b + 14 + 7 * t) 5)) 0)
theorem xp_leavesOut {σ : Nat → Nat × (Nat → Int32)} {yy : (Nat → Nat → Int64) × Bool × Nat × Nat} {m : Nat → Nat → Int32} {b : Nat} {t : Nat} {l : Int32} {d : Nat} (hd : 1 ≤ d + 1) (hb : BB b) (ht : t < 4) (hq : m (b + 14 + 7 * t) 5 = Int32.ofNat (mv m (b + 14 + 7 * t) 5)) (hq4 : mv m (b + 14 + 7 * t) 5 ≤ 4) : zEv σ (d + 1) 4 0 [some (.ref (b + 14 + 7 * t)), some (.int l), none] [] (zS1, m, yy) (.inl (some (.int (x_leavesOut m b t l)))) (zS1, m, yy) := by
  refine zeKn (c := 0) rfl rfl rfl ?_
  refine zeP rfl rfl ?_
  simp only [x_leavesOut, cond_true, cond_false]
  exact xw_leavesOut (b := b) (t := t) (l := l) (m := m) (by omega) (by first | assumption | omega) (by first | assumption | omega) (by first | assumption | omega) (by first | assumption | omega) ((mv m (b + 14 + 7 * t) 5)) (0)   (by omega) 
theorem xc_leavesOut {σ : Nat → Nat × (Nat → Int32)} {yy : (Nat → Nat → Int64) × Bool × Nat × Nat} {m : Nat → Nat → Int32} {b : Nat} {t : Nat} {l : Int32} (hb : BB b) (ht : t < 4) (hq : m (b + 14 + 7 * t) 5 = Int32.ofNat (mv m (b + 14 + 7 * t) 5)) (hq4 : mv m (b + 14 + 7 * t) 5 ≤ 4) : zF σ 1 4 [.ref (b + 14 + 7 * t), .int l] (zS1, m, yy) (.inl (some (.int (x_leavesOut m b t l)))) (zS1, m, yy) := by
  intro d hd
  obtain ⟨d, rfl⟩ : ∃ k, d = k + 1 := ⟨d - 1, by omega⟩
  exact xp_leavesOut hd hb ht hq hq4
noncomputable def x_blockBit (m : Nat → Nat → Int32) (b : Nat) (w : Int32) : Int32 := ((Int32.ofNat 1) <<< ((w / (if (Int32.ofNat 1) < (m ((b + 3)) 0) then (m ((b + 3)) 0) else (Int32.ofNat 1))) &&& 31))
theorem xp_blockBit {σ : Nat → Nat × (Nat → Int32)} {yy : (Nat → Nat → Int64) × Bool × Nat × Nat} {m : Nat → Nat → Int32} {b : Nat} {w : Int32} {d : Nat} (hd : 1 ≤ d + 1) (hb : BB b) : zEv σ (d + 1) 604 0 [some (.ref b), some (.int w), none] [] (zS1, m, yy) (.inl (some (.int (x_blockBit m b w)))) (zS1, m, yy) := by
  refine zeKn (c := 1) rfl rfl rfl ?_
  refine zeP rfl rfl ?_
  refine zeGR rfl rfl (shM hb) rfl rfl ?_
  refine zeKn (c := 0) rfl rfl rfl ?_
  refine zeAL (k := 0) rfl (bb1000 hb (by omega)) (shE hb) rfl (by omega) ?_
  refine zeM rfl rfl rfl rfl rfl rfl rfl ?_
  refine zeP rfl rfl ?_
  refine zeKn (c := 1) rfl rfl rfl ?_
  refine zeP rfl rfl ?_
  refine zeP rfl rfl ?_
  refine zeDiv rfl mx1 ?_
  refine zeP rfl rfl ?_
  exact zeRe rfl rfl rfl rfl (by rfl) (by rfl)
theorem xc_blockBit {σ : Nat → Nat × (Nat → Int32)} {yy : (Nat → Nat → Int64) × Bool × Nat × Nat} {m : Nat → Nat → Int32} {b : Nat} {w : Int32} (hb : BB b) : zF σ 1 604 [.ref b, .int w] (zS1, m, yy) (.inl (some (.int (x_blockBit m b w)))) (zS1, m, yy) := by
  intro d hd
  obtain ⟨d, rfl⟩ : ∃ k, d = k + 1 := ⟨d - 1, by omega⟩
  exact xp_blockBit hd hb
noncomputable def x_seenBy (m : Nat → Nat → Int32) (b : Nat) (t : Nat) (w : Nat) : Int32 := (bif zc1 .eq (m ((b + 14 + 7 * t)) 0) then (m ((b + 1)) w) else (bif zc1 .eq (x_hasValue m b t ((Int32.ofNat w))) then (m ((b + 1)) w) else (m ((b + 16 + 7 * t)) w)))
theorem xp_seenBy {σ : Nat → Nat × (Nat → Int32)} {yy : (Nat → Nat → Int64) × Bool × Nat × Nat} {m : Nat → Nat → Int32} {b : Nat} {t : Nat} {w : Nat} {d : Nat} (hd : 2 ≤ d + 1) (hb : BB b) (ht : t < 4) (hw : w < 32) : zEv σ (d + 1) 605 0 [some (.ref b), some (.ref (b + 10 + 7 * t)), some (.int (Int32.ofNat w)), none] [] (zS1, m, yy) (.inl (some (.int (x_seenBy m b t w)))) (zS1, m, yy) := by
  refine zeP rfl rfl ?_
  refine zeKn (c := 31) rfl rfl rfl ?_
  refine zeON (c := w) rfl rfl (zand31 _ hw) ?_
  refine zeP rfl rfl ?_
  refine zeP rfl rfl ?_
  refine zeGR rfl rfl (shS hb (by omega)) rfl rfl ?_
  refine zeGI rfl rfl (shG hb (by omega)) rfl rfl ?_
  refine zeB1 rfl rfl (fun h1 => ?_) (fun h1 => ?_)
  · refine zeP rfl rfl ?_
    refine zeGR rfl rfl (shM hb) rfl rfl ?_
    refine zeP rfl rfl ?_
    refine zeAL (k := w) rfl (bb1000 hb (by omega)) (shW hb) rfl (by omega) ?_
    exact zeRe rfl rfl rfl rfl (by simp only [x_seenBy, h1, cond_true, cond_false] <;> rfl) (by simp only [x_seenBy, h1, cond_true, cond_false] <;> rfl)
  · refine zeP rfl rfl ?_
    refine zeGR rfl rfl (shS hb (by omega)) rfl rfl ?_
    refine zeP rfl rfl ?_
    refine zeCV rfl rfl rfl rfl (shG hb (by omega)) rfl (xc_hasValue (m := m) (b := b) (t := t) (w := (Int32.ofNat w)) (by first | assumption | omega) (by first | assumption | omega)) (by omega) ?_
    dsimp only [Option.toList, List.cons_append, List.nil_append]
    refine zeB1 rfl rfl (fun h2 => ?_) (fun h2 => ?_)
    · refine zeP rfl rfl ?_
      refine zeGR rfl rfl (shM hb) rfl rfl ?_
      refine zeP rfl rfl ?_
      refine zeAL (k := w) rfl (bb1000 hb (by omega)) (shW hb) rfl (by omega) ?_
      exact zeRe rfl rfl rfl rfl (by simp only [x_seenBy, h1, h2, cond_true, cond_false] <;> rfl) (by simp only [x_seenBy, h1, h2, cond_true, cond_false] <;> rfl)
    · refine zeP rfl rfl ?_
      refine zeGR rfl rfl (shS hb (by omega)) rfl rfl ?_
      refine zeGR rfl rfl (shG hb (by omega)) rfl rfl ?_
      refine zeP rfl rfl ?_
      refine zeAL (k := w) rfl (bbl hb (by omega) (by omega)) (shV hb (by omega)) rfl (by omega) ?_
      refine zeP rfl rfl ?_
      exact zeRe rfl rfl rfl rfl (by simp only [x_seenBy, h1, h2, cond_true, cond_false] <;> rfl) (by simp only [x_seenBy, h1, h2, cond_true, cond_false] <;> rfl)
theorem xc_seenBy {σ : Nat → Nat × (Nat → Int32)} {yy : (Nat → Nat → Int64) × Bool × Nat × Nat} {m : Nat → Nat → Int32} {b : Nat} {t : Nat} {w : Nat} (hb : BB b) (ht : t < 4) (hw : w < 32) : zF σ 2 605 [.ref b, .ref (b + 10 + 7 * t), .int (Int32.ofNat w)] (zS1, m, yy) (.inl (some (.int (x_seenBy m b t w)))) (zS1, m, yy) := by
  intro d hd
  obtain ⟨d, rfl⟩ : ∃ k, d = k + 1 := ⟨d - 1, by omega⟩
  exact xp_seenBy hd hb ht hw
noncomputable def x_isGuessing (m : Nat → Nat → Int32) (b : Nat) (t : Nat) : Int32 := (bif zc1 .eq (m ((b + 14 + 7 * t)) 0) then (Int32.ofNat 0) else (Int32.ofNat 1))
theorem xp_isGuessing {σ : Nat → Nat × (Nat → Int32)} {yy : (Nat → Nat → Int64) × Bool × Nat × Nat} {m : Nat → Nat → Int32} {b : Nat} {t : Nat} {d : Nat} (hd : 2 ≤ d + 1) (hb : BB b) (ht : t < 4) : zEv σ (d + 1) 606 0 [some (.ref b), some (.int (Int32.ofNat t))] [] (zS1, m, yy) (.inl (some (.int (x_isGuessing m b t)))) (zS1, m, yy) := by
  refine zeP rfl rfl ?_
  refine zeK (v := -1) rfl rfl rfl ?_
  refine zeF2 rfl rfl (zne1 (by omega)) ?_
  refine zeP rfl rfl ?_
  refine zeP rfl rfl ?_
  refine zeCV rfl rfl rfl rfl (shM hb) rfl (xc_strandAt (m := m) (b := b) (t := t) (by first | assumption | omega) (by first | assumption | omega)) (by omega) ?_
  dsimp only [Option.toList, List.cons_append, List.nil_append]
  refine zeGR rfl rfl (shS hb (by omega)) rfl rfl ?_
  refine zeGI rfl rfl (shG hb (by omega)) rfl rfl ?_
  refine zeB1 rfl rfl (fun h1 => ?_) (fun h1 => ?_)
  · refine zeKn (c := 0) rfl rfl rfl ?_
    exact zeRe rfl rfl rfl rfl (by simp only [x_isGuessing, h1, cond_true, cond_false] <;> rfl) (by simp only [x_isGuessing, h1, cond_true, cond_false] <;> rfl)
  · refine zeKn (c := 1) rfl rfl rfl ?_
    refine zeP rfl rfl ?_
    exact zeRe rfl rfl rfl rfl (by simp only [x_isGuessing, h1, cond_true, cond_false] <;> rfl) (by simp only [x_isGuessing, h1, cond_true, cond_false] <;> rfl)
theorem xc_isGuessing {σ : Nat → Nat × (Nat → Int32)} {yy : (Nat → Nat → Int64) × Bool × Nat × Nat} {m : Nat → Nat → Int32} {b : Nat} {t : Nat} (hb : BB b) (ht : t < 4) : zF σ 2 606 [.ref b, .int (Int32.ofNat t)] (zS1, m, yy) (.inl (some (.int (x_isGuessing m b t)))) (zS1, m, yy) := by
  intro d hd
  obtain ⟨d, rfl⟩ : ∃ k, d = k + 1 := ⟨d - 1, by omega⟩
  exact xp_isGuessing hd hb ht
noncomputable def x_fall (m : Nat → Nat → Int32) (b : Nat) (t : Nat) (y : Nat) : Int32 × (Nat → Nat → Int32) := ((-1), (x_logAdd ((x_close ((x_lose ((zm2 ((zm2 ((zm2 ((zm2 ((zm2 m ((b + 10 + 7 * t)) 3 (m ((b + 14 + 7 * t)) 1))) ((b + 10 + 7 * t)) 4 (((zm2 m ((b + 10 + 7 * t)) 3 (m ((b + 14 + 7 * t)) 1))) ((b + 14 + 7 * t)) 2))) ((b + 10 + 7 * t)) 7 (Int32.ofNat 0))) ((b + 10 + 7 * t)) 5 ((((zm2 ((zm2 ((zm2 m ((b + 10 + 7 * t)) 3 (m ((b + 14 + 7 * t)) 1))) ((b + 10 + 7 * t)) 4 (((zm2 m ((b + 10 + 7 * t)) 3 (m ((b + 14 + 7 * t)) 1))) ((b + 14 + 7 * t)) 2))) ((b + 10 + 7 * t)) 7 (Int32.ofNat 0))) ((b + 10 + 7 * t)) 5) + (Int32.ofNat 1)))) ((b + 13 + 7 * t)) y ((((zm2 ((zm2 ((zm2 ((zm2 m ((b + 10 + 7 * t)) 3 (m ((b + 14 + 7 * t)) 1))) ((b + 10 + 7 * t)) 4 (((zm2 m ((b + 10 + 7 * t)) 3 (m ((b + 14 + 7 * t)) 1))) ((b + 14 + 7 * t)) 2))) ((b + 10 + 7 * t)) 7 (Int32.ofNat 0))) ((b + 10 + 7 * t)) 5 ((((zm2 ((zm2 ((zm2 m ((b + 10 + 7 * t)) 3 (m ((b + 14 + 7 * t)) 1))) ((b + 10 + 7 * t)) 4 (((zm2 m ((b + 10 + 7 * t)) 3 (m ((b + 14 + 7 * t)) 1))) ((b + 14 + 7 * t)) 2))) ((b + 10 + 7 * t)) 7 (Int32.ofNat 0))) ((b + 10 + 7 * t)) 5) + (Int32.ofNat 1)))) ((b + 13 + 7 * t)) y) + (Int32.ofNat 1)))) b (((mv m (b + 15 + 7 * t) 0))) ((((zm2 ((zm2 ((zm2 ((zm2 ((zm2 m ((b + 10 + 7 * t)) 3 (m ((b + 14 + 7 * t)) 1))) ((b + 10 + 7 * t)) 4 (((zm2 m ((b + 10 + 7 * t)) 3 (m ((b + 14 + 7 * t)) 1))) ((b + 14 + 7 * t)) 2))) ((b + 10 + 7 * t)) 7 (Int32.ofNat 0))) ((b + 10 + 7 * t)) 5 ((((zm2 ((zm2 ((zm2 m ((b + 10 + 7 * t)) 3 (m ((b + 14 + 7 * t)) 1))) ((b + 10 + 7 * t)) 4 (((zm2 m ((b + 10 + 7 * t)) 3 (m ((b + 14 + 7 * t)) 1))) ((b + 14 + 7 * t)) 2))) ((b + 10 + 7 * t)) 7 (Int32.ofNat 0))) ((b + 10 + 7 * t)) 5) + (Int32.ofNat 1)))) ((b + 13 + 7 * t)) y ((((zm2 ((zm2 ((zm2 ((zm2 m ((b + 10 + 7 * t)) 3 (m ((b + 14 + 7 * t)) 1))) ((b + 10 + 7 * t)) 4 (((zm2 m ((b + 10 + 7 * t)) 3 (m ((b + 14 + 7 * t)) 1))) ((b + 14 + 7 * t)) 2))) ((b + 10 + 7 * t)) 7 (Int32.ofNat 0))) ((b + 10 + 7 * t)) 5 ((((zm2 ((zm2 ((zm2 m ((b + 10 + 7 * t)) 3 (m ((b + 14 + 7 * t)) 1))) ((b + 10 + 7 * t)) 4 (((zm2 m ((b + 10 + 7 * t)) 3 (m ((b + 14 + 7 * t)) 1))) ((b + 14 + 7 * t)) 2))) ((b + 10 + 7 * t)) 7 (Int32.ofNat 0))) ((b + 10 + 7 * t)) 5) + (Int32.ofNat 1)))) ((b + 13 + 7 * t)) y) + (Int32.ofNat 1)))) ((b + 3)) 6)))) b t)) b ((((x_close ((x_lose ((zm2 ((zm2 ((zm2 ((zm2 ((zm2 m ((b + 10 + 7 * t)) 3 (m ((b + 14 + 7 * t)) 1))) ((b + 10 + 7 * t)) 4 (((zm2 m ((b + 10 + 7 * t)) 3 (m ((b + 14 + 7 * t)) 1))) ((b + 14 + 7 * t)) 2))) ((b + 10 + 7 * t)) 7 (Int32.ofNat 0))) ((b + 10 + 7 * t)) 5 ((((zm2 ((zm2 ((zm2 m ((b + 10 + 7 * t)) 3 (m ((b + 14 + 7 * t)) 1))) ((b + 10 + 7 * t)) 4 (((zm2 m ((b + 10 + 7 * t)) 3 (m ((b + 14 + 7 * t)) 1))) ((b + 14 + 7 * t)) 2))) ((b + 10 + 7 * t)) 7 (Int32.ofNat 0))) ((b + 10 + 7 * t)) 5) + (Int32.ofNat 1)))) ((b + 13 + 7 * t)) y ((((zm2 ((zm2 ((zm2 ((zm2 m ((b + 10 + 7 * t)) 3 (m ((b + 14 + 7 * t)) 1))) ((b + 10 + 7 * t)) 4 (((zm2 m ((b + 10 + 7 * t)) 3 (m ((b + 14 + 7 * t)) 1))) ((b + 14 + 7 * t)) 2))) ((b + 10 + 7 * t)) 7 (Int32.ofNat 0))) ((b + 10 + 7 * t)) 5 ((((zm2 ((zm2 ((zm2 m ((b + 10 + 7 * t)) 3 (m ((b + 14 + 7 * t)) 1))) ((b + 10 + 7 * t)) 4 (((zm2 m ((b + 10 + 7 * t)) 3 (m ((b + 14 + 7 * t)) 1))) ((b + 14 + 7 * t)) 2))) ((b + 10 + 7 * t)) 7 (Int32.ofNat 0))) ((b + 10 + 7 * t)) 5) + (Int32.ofNat 1)))) ((b + 13 + 7 * t)) y) + (Int32.ofNat 1)))) b (((mv m (b + 15 + 7 * t) 0))) ((((zm2 ((zm2 ((zm2 ((zm2 ((zm2 m ((b + 10 + 7 * t)) 3 (m ((b + 14 + 7 * t)) 1))) ((b + 10 + 7 * t)) 4 (((zm2 m ((b + 10 + 7 * t)) 3 (m ((b + 14 + 7 * t)) 1))) ((b + 14 + 7 * t)) 2))) ((b + 10 + 7 * t)) 7 (Int32.ofNat 0))) ((b + 10 + 7 * t)) 5 ((((zm2 ((zm2 ((zm2 m ((b + 10 + 7 * t)) 3 (m ((b + 14 + 7 * t)) 1))) ((b + 10 + 7 * t)) 4 (((zm2 m ((b + 10 + 7 * t)) 3 (m ((b + 14 + 7 * t)) 1))) ((b + 14 + 7 * t)) 2))) ((b + 10 + 7 * t)) 7 (Int32.ofNat 0))) ((b + 10 + 7 * t)) 5) + (Int32.ofNat 1)))) ((b + 13 + 7 * t)) y ((((zm2 ((zm2 ((zm2 ((zm2 m ((b + 10 + 7 * t)) 3 (m ((b + 14 + 7 * t)) 1))) ((b + 10 + 7 * t)) 4 (((zm2 m ((b + 10 + 7 * t)) 3 (m ((b + 14 + 7 * t)) 1))) ((b + 14 + 7 * t)) 2))) ((b + 10 + 7 * t)) 7 (Int32.ofNat 0))) ((b + 10 + 7 * t)) 5 ((((zm2 ((zm2 ((zm2 m ((b + 10 + 7 * t)) 3 (m ((b + 14 + 7 * t)) 1))) ((b + 10 + 7 * t)) 4 (((zm2 m ((b + 10 + 7 * t)) 3 (m ((b + 14 + 7 * t)) 1))) ((b + 14 + 7 * t)) 2))) ((b + 10 + 7 * t)) 7 (Int32.ofNat 0))) ((b + 10 + 7 * t)) 5) + (Int32.ofNat 1)))) ((b + 13 + 7 * t)) y) + (Int32.ofNat 1)))) ((b + 3)) 6)))) b t)) b 7)) ((Int32.ofNat t)) ((Int32.ofNat 2)) ((Int32.ofNat y))))
theorem xp_fall {σ : Nat → Nat × (Nat → Int32)} {yy : (Nat → Nat → Int64) × Bool × Nat × Nat} {m : Nat → Nat → Int32} {b : Nat} {t : Nat} {y : Nat} {d : Nat} (hd : 2 ≤ d + 1) (hb : BB b) (ht : t < 4) (hy : y < 5) (hL : m (b + 15 + 7 * t) 0 = Int32.ofNat (mv m (b + 15 + 7 * t) 0)) (hL4 : mv m (b + 15 + 7 * t) 0 < 4) (hn : m (b + 40) 2 = Int32.ofNat (mv m (b + 40) 2)) (hn60 : mv m (b + 40) 2 < 60) : zEv σ (d + 1) 624 0 [some (.ref b), some (.int (Int32.ofNat t)), some (.int (Int32.ofNat y)), none] [] (zS1, m, yy) (.inl (some (.int (x_fall m b t y).1))) (zS1, ((x_fall m b t y).2), yy) := by
  refine zeP rfl rfl ?_
  refine zeP rfl rfl ?_
  refine zeCV rfl rfl rfl rfl (shM hb) rfl (xc_strandAt (m := m) (b := b) (t := t) hb ht) (by omega) ?_
  dsimp only [Option.toList, List.cons_append, List.nil_append]
  refine zeP rfl rfl ?_
  refine zeP rfl rfl ?_
  refine zeP rfl rfl ?_
  refine zeGR rfl rfl (shS hb (by omega)) rfl rfl ?_
  refine zeGI rfl rfl (shG hb (by omega)) rfl rfl ?_
  refine zePI rfl rfl (shS hb (by omega)) rfl ?_
  refine zeP rfl rfl ?_
  refine zeP rfl rfl ?_
  refine zeGR rfl rfl (shS hb (by omega)) rfl rfl ?_
  refine zeGI rfl rfl (shG hb (by omega)) rfl rfl ?_
  refine zePI rfl rfl (shS hb (by omega)) rfl ?_
  refine zeP rfl rfl ?_
  refine zeKn (c := 0) rfl rfl rfl ?_
  refine zePI rfl rfl (shS hb (by omega)) rfl ?_
  refine zeP rfl rfl ?_
  refine zeP rfl rfl ?_
  refine zeGI rfl rfl (shS hb (by omega)) rfl rfl ?_
  refine zeKn (c := 1) rfl rfl rfl ?_
  refine zeP rfl rfl ?_
  refine zePI rfl rfl (shS hb (by omega)) rfl ?_
  refine zeP rfl rfl ?_
  refine zeF1 rfl rfl (c1lt (by omega)) ?_
  refine zeP rfl rfl ?_
  refine zeKn (c := 5) rfl rfl rfl ?_
  refine zeF2 rfl rfl (zcge_f (by omega) (by omega) (by omega)) ?_
  refine zeP rfl rfl ?_
  refine zeGR rfl rfl (shS hb (by omega)) rfl rfl ?_
  refine zeP rfl rfl ?_
  refine zeP rfl rfl ?_
  refine zeAL (k := y) rfl (bbl hb (by omega) (by omega)) (shF hb (by omega)) rfl (by omega) ?_
  refine zeKn (c := 1) rfl rfl rfl ?_
  refine zeP rfl rfl ?_
  refine zeAS (k := y) rfl (shF hb (by omega)) rfl (by omega) ?_
  refine zeP rfl rfl ?_
  refine zeP rfl rfl ?_
  refine zeGR rfl rfl (shS hb (by omega)) rfl rfl ?_
  refine zeGR rfl rfl (shG hb (by omega)) rfl rfl ?_
  refine zeKn (c := 0) rfl rfl rfl ?_
  refine zeAL (k := 0) rfl (bbl hb (by omega) (by omega)) (shO hb (by omega)) rfl (by omega) ?_
  rw [(show (((zm2 ((zm2 ((zm2 ((zm2 ((zm2 m ((b + 10 + 7 * t)) 3 (m ((b + 14 + 7 * t)) 1))) ((b + 10 + 7 * t)) 4 (((zm2 m ((b + 10 + 7 * t)) 3 (m ((b + 14 + 7 * t)) 1))) ((b + 14 + 7 * t)) 2))) ((b + 10 + 7 * t)) 7 (Int32.ofNat 0))) ((b + 10 + 7 * t)) 5 ((((zm2 ((zm2 ((zm2 m ((b + 10 + 7 * t)) 3 (m ((b + 14 + 7 * t)) 1))) ((b + 10 + 7 * t)) 4 (((zm2 m ((b + 10 + 7 * t)) 3 (m ((b + 14 + 7 * t)) 1))) ((b + 14 + 7 * t)) 2))) ((b + 10 + 7 * t)) 7 (Int32.ofNat 0))) ((b + 10 + 7 * t)) 5) + (Int32.ofNat 1)))) ((b + 13 + 7 * t)) y ((((zm2 ((zm2 ((zm2 ((zm2 m ((b + 10 + 7 * t)) 3 (m ((b + 14 + 7 * t)) 1))) ((b + 10 + 7 * t)) 4 (((zm2 m ((b + 10 + 7 * t)) 3 (m ((b + 14 + 7 * t)) 1))) ((b + 14 + 7 * t)) 2))) ((b + 10 + 7 * t)) 7 (Int32.ofNat 0))) ((b + 10 + 7 * t)) 5 ((((zm2 ((zm2 ((zm2 m ((b + 10 + 7 * t)) 3 (m ((b + 14 + 7 * t)) 1))) ((b + 10 + 7 * t)) 4 (((zm2 m ((b + 10 + 7 * t)) 3 (m ((b + 14 + 7 * t)) 1))) ((b + 14 + 7 * t)) 2))) ((b + 10 + 7 * t)) 7 (Int32.ofNat 0))) ((b + 10 + 7 * t)) 5) + (Int32.ofNat 1)))) ((b + 13 + 7 * t)) y) + (Int32.ofNat 1)))) ((b + 15 + 7 * t)) 0) = Int32.ofNat (mv m (b + 15 + 7 * t) 0) from (by simp (disch := omega) only [zx_ne]; exact hL))]
  refine zeCV rfl rfl rfl rfl (shM hb) rfl (xc_lockAt (m := (zm2 ((zm2 ((zm2 ((zm2 ((zm2 m ((b + 10 + 7 * t)) 3 (m ((b + 14 + 7 * t)) 1))) ((b + 10 + 7 * t)) 4 (((zm2 m ((b + 10 + 7 * t)) 3 (m ((b + 14 + 7 * t)) 1))) ((b + 14 + 7 * t)) 2))) ((b + 10 + 7 * t)) 7 (Int32.ofNat 0))) ((b + 10 + 7 * t)) 5 ((((zm2 ((zm2 ((zm2 m ((b + 10 + 7 * t)) 3 (m ((b + 14 + 7 * t)) 1))) ((b + 10 + 7 * t)) 4 (((zm2 m ((b + 10 + 7 * t)) 3 (m ((b + 14 + 7 * t)) 1))) ((b + 14 + 7 * t)) 2))) ((b + 10 + 7 * t)) 7 (Int32.ofNat 0))) ((b + 10 + 7 * t)) 5) + (Int32.ofNat 1)))) ((b + 13 + 7 * t)) y ((((zm2 ((zm2 ((zm2 ((zm2 m ((b + 10 + 7 * t)) 3 (m ((b + 14 + 7 * t)) 1))) ((b + 10 + 7 * t)) 4 (((zm2 m ((b + 10 + 7 * t)) 3 (m ((b + 14 + 7 * t)) 1))) ((b + 14 + 7 * t)) 2))) ((b + 10 + 7 * t)) 7 (Int32.ofNat 0))) ((b + 10 + 7 * t)) 5 ((((zm2 ((zm2 ((zm2 m ((b + 10 + 7 * t)) 3 (m ((b + 14 + 7 * t)) 1))) ((b + 10 + 7 * t)) 4 (((zm2 m ((b + 10 + 7 * t)) 3 (m ((b + 14 + 7 * t)) 1))) ((b + 14 + 7 * t)) 2))) ((b + 10 + 7 * t)) 7 (Int32.ofNat 0))) ((b + 10 + 7 * t)) 5) + (Int32.ofNat 1)))) ((b + 13 + 7 * t)) y) + (Int32.ofNat 1)))) (b := b) (l := (mv m (b + 15 + 7 * t) 0)) hb hL4) (by omega) ?_
  dsimp only [Option.toList, List.cons_append, List.nil_append]
  refine zeP rfl rfl ?_
  refine zeGR rfl rfl (shM hb) rfl rfl ?_
  refine zeKn (c := 6) rfl rfl rfl ?_
  refine zeAL (k := 6) rfl (bb1000 hb (by omega)) (shE hb) rfl (by omega) ?_
  refine zeCV rfl rfl rfl rfl (shL hb (by omega)) rfl (xc_lose (m := (zm2 ((zm2 ((zm2 ((zm2 ((zm2 m ((b + 10 + 7 * t)) 3 (m ((b + 14 + 7 * t)) 1))) ((b + 10 + 7 * t)) 4 (((zm2 m ((b + 10 + 7 * t)) 3 (m ((b + 14 + 7 * t)) 1))) ((b + 14 + 7 * t)) 2))) ((b + 10 + 7 * t)) 7 (Int32.ofNat 0))) ((b + 10 + 7 * t)) 5 ((((zm2 ((zm2 ((zm2 m ((b + 10 + 7 * t)) 3 (m ((b + 14 + 7 * t)) 1))) ((b + 10 + 7 * t)) 4 (((zm2 m ((b + 10 + 7 * t)) 3 (m ((b + 14 + 7 * t)) 1))) ((b + 14 + 7 * t)) 2))) ((b + 10 + 7 * t)) 7 (Int32.ofNat 0))) ((b + 10 + 7 * t)) 5) + (Int32.ofNat 1)))) ((b + 13 + 7 * t)) y ((((zm2 ((zm2 ((zm2 ((zm2 m ((b + 10 + 7 * t)) 3 (m ((b + 14 + 7 * t)) 1))) ((b + 10 + 7 * t)) 4 (((zm2 m ((b + 10 + 7 * t)) 3 (m ((b + 14 + 7 * t)) 1))) ((b + 14 + 7 * t)) 2))) ((b + 10 + 7 * t)) 7 (Int32.ofNat 0))) ((b + 10 + 7 * t)) 5 ((((zm2 ((zm2 ((zm2 m ((b + 10 + 7 * t)) 3 (m ((b + 14 + 7 * t)) 1))) ((b + 10 + 7 * t)) 4 (((zm2 m ((b + 10 + 7 * t)) 3 (m ((b + 14 + 7 * t)) 1))) ((b + 14 + 7 * t)) 2))) ((b + 10 + 7 * t)) 7 (Int32.ofNat 0))) ((b + 10 + 7 * t)) 5) + (Int32.ofNat 1)))) ((b + 13 + 7 * t)) y) + (Int32.ofNat 1)))) (b := b) (l := ((mv m (b + 15 + 7 * t) 0))) (x := (((zm2 ((zm2 ((zm2 ((zm2 ((zm2 m ((b + 10 + 7 * t)) 3 (m ((b + 14 + 7 * t)) 1))) ((b + 10 + 7 * t)) 4 (((zm2 m ((b + 10 + 7 * t)) 3 (m ((b + 14 + 7 * t)) 1))) ((b + 14 + 7 * t)) 2))) ((b + 10 + 7 * t)) 7 (Int32.ofNat 0))) ((b + 10 + 7 * t)) 5 ((((zm2 ((zm2 ((zm2 m ((b + 10 + 7 * t)) 3 (m ((b + 14 + 7 * t)) 1))) ((b + 10 + 7 * t)) 4 (((zm2 m ((b + 10 + 7 * t)) 3 (m ((b + 14 + 7 * t)) 1))) ((b + 14 + 7 * t)) 2))) ((b + 10 + 7 * t)) 7 (Int32.ofNat 0))) ((b + 10 + 7 * t)) 5) + (Int32.ofNat 1)))) ((b + 13 + 7 * t)) y ((((zm2 ((zm2 ((zm2 ((zm2 m ((b + 10 + 7 * t)) 3 (m ((b + 14 + 7 * t)) 1))) ((b + 10 + 7 * t)) 4 (((zm2 m ((b + 10 + 7 * t)) 3 (m ((b + 14 + 7 * t)) 1))) ((b + 14 + 7 * t)) 2))) ((b + 10 + 7 * t)) 7 (Int32.ofNat 0))) ((b + 10 + 7 * t)) 5 ((((zm2 ((zm2 ((zm2 m ((b + 10 + 7 * t)) 3 (m ((b + 14 + 7 * t)) 1))) ((b + 10 + 7 * t)) 4 (((zm2 m ((b + 10 + 7 * t)) 3 (m ((b + 14 + 7 * t)) 1))) ((b + 14 + 7 * t)) 2))) ((b + 10 + 7 * t)) 7 (Int32.ofNat 0))) ((b + 10 + 7 * t)) 5) + (Int32.ofNat 1)))) ((b + 13 + 7 * t)) y) + (Int32.ofNat 1)))) ((b + 3)) 6)) hb hL4) (by omega) ?_
  dsimp only [Option.toList, List.cons_append, List.nil_append]
  refine zeP rfl rfl ?_
  refine zeGR rfl rfl (shS hb (by omega)) rfl rfl ?_
  refine zeCV rfl rfl rfl rfl (shG hb (by omega)) rfl (xc_close (m := (x_lose ((zm2 ((zm2 ((zm2 ((zm2 ((zm2 m ((b + 10 + 7 * t)) 3 (m ((b + 14 + 7 * t)) 1))) ((b + 10 + 7 * t)) 4 (((zm2 m ((b + 10 + 7 * t)) 3 (m ((b + 14 + 7 * t)) 1))) ((b + 14 + 7 * t)) 2))) ((b + 10 + 7 * t)) 7 (Int32.ofNat 0))) ((b + 10 + 7 * t)) 5 ((((zm2 ((zm2 ((zm2 m ((b + 10 + 7 * t)) 3 (m ((b + 14 + 7 * t)) 1))) ((b + 10 + 7 * t)) 4 (((zm2 m ((b + 10 + 7 * t)) 3 (m ((b + 14 + 7 * t)) 1))) ((b + 14 + 7 * t)) 2))) ((b + 10 + 7 * t)) 7 (Int32.ofNat 0))) ((b + 10 + 7 * t)) 5) + (Int32.ofNat 1)))) ((b + 13 + 7 * t)) y ((((zm2 ((zm2 ((zm2 ((zm2 m ((b + 10 + 7 * t)) 3 (m ((b + 14 + 7 * t)) 1))) ((b + 10 + 7 * t)) 4 (((zm2 m ((b + 10 + 7 * t)) 3 (m ((b + 14 + 7 * t)) 1))) ((b + 14 + 7 * t)) 2))) ((b + 10 + 7 * t)) 7 (Int32.ofNat 0))) ((b + 10 + 7 * t)) 5 ((((zm2 ((zm2 ((zm2 m ((b + 10 + 7 * t)) 3 (m ((b + 14 + 7 * t)) 1))) ((b + 10 + 7 * t)) 4 (((zm2 m ((b + 10 + 7 * t)) 3 (m ((b + 14 + 7 * t)) 1))) ((b + 14 + 7 * t)) 2))) ((b + 10 + 7 * t)) 7 (Int32.ofNat 0))) ((b + 10 + 7 * t)) 5) + (Int32.ofNat 1)))) ((b + 13 + 7 * t)) y) + (Int32.ofNat 1)))) b (((mv m (b + 15 + 7 * t) 0))) ((((zm2 ((zm2 ((zm2 ((zm2 ((zm2 m ((b + 10 + 7 * t)) 3 (m ((b + 14 + 7 * t)) 1))) ((b + 10 + 7 * t)) 4 (((zm2 m ((b + 10 + 7 * t)) 3 (m ((b + 14 + 7 * t)) 1))) ((b + 14 + 7 * t)) 2))) ((b + 10 + 7 * t)) 7 (Int32.ofNat 0))) ((b + 10 + 7 * t)) 5 ((((zm2 ((zm2 ((zm2 m ((b + 10 + 7 * t)) 3 (m ((b + 14 + 7 * t)) 1))) ((b + 10 + 7 * t)) 4 (((zm2 m ((b + 10 + 7 * t)) 3 (m ((b + 14 + 7 * t)) 1))) ((b + 14 + 7 * t)) 2))) ((b + 10 + 7 * t)) 7 (Int32.ofNat 0))) ((b + 10 + 7 * t)) 5) + (Int32.ofNat 1)))) ((b + 13 + 7 * t)) y ((((zm2 ((zm2 ((zm2 ((zm2 m ((b + 10 + 7 * t)) 3 (m ((b + 14 + 7 * t)) 1))) ((b + 10 + 7 * t)) 4 (((zm2 m ((b + 10 + 7 * t)) 3 (m ((b + 14 + 7 * t)) 1))) ((b + 14 + 7 * t)) 2))) ((b + 10 + 7 * t)) 7 (Int32.ofNat 0))) ((b + 10 + 7 * t)) 5 ((((zm2 ((zm2 ((zm2 m ((b + 10 + 7 * t)) 3 (m ((b + 14 + 7 * t)) 1))) ((b + 10 + 7 * t)) 4 (((zm2 m ((b + 10 + 7 * t)) 3 (m ((b + 14 + 7 * t)) 1))) ((b + 14 + 7 * t)) 2))) ((b + 10 + 7 * t)) 7 (Int32.ofNat 0))) ((b + 10 + 7 * t)) 5) + (Int32.ofNat 1)))) ((b + 13 + 7 * t)) y) + (Int32.ofNat 1)))) ((b + 3)) 6)))) (b := b) (t := t) hb ht) (by omega) ?_
  dsimp only [Option.toList, List.cons_append, List.nil_append]
  refine zeP rfl rfl ?_
  refine zeGR rfl rfl (shM hb) rfl rfl ?_
  refine zeP rfl rfl ?_
  refine zeGI rfl rfl (shM hb) rfl rfl ?_
  refine zeP rfl rfl ?_
  refine zeKn (c := 2) rfl rfl rfl ?_
  refine zeP rfl rfl ?_
  refine zeCV rfl rfl rfl rfl (shLG hb) rfl (xc_logAdd (m := (x_close ((x_lose ((zm2 ((zm2 ((zm2 ((zm2 ((zm2 m ((b + 10 + 7 * t)) 3 (m ((b + 14 + 7 * t)) 1))) ((b + 10 + 7 * t)) 4 (((zm2 m ((b + 10 + 7 * t)) 3 (m ((b + 14 + 7 * t)) 1))) ((b + 14 + 7 * t)) 2))) ((b + 10 + 7 * t)) 7 (Int32.ofNat 0))) ((b + 10 + 7 * t)) 5 ((((zm2 ((zm2 ((zm2 m ((b + 10 + 7 * t)) 3 (m ((b + 14 + 7 * t)) 1))) ((b + 10 + 7 * t)) 4 (((zm2 m ((b + 10 + 7 * t)) 3 (m ((b + 14 + 7 * t)) 1))) ((b + 14 + 7 * t)) 2))) ((b + 10 + 7 * t)) 7 (Int32.ofNat 0))) ((b + 10 + 7 * t)) 5) + (Int32.ofNat 1)))) ((b + 13 + 7 * t)) y ((((zm2 ((zm2 ((zm2 ((zm2 m ((b + 10 + 7 * t)) 3 (m ((b + 14 + 7 * t)) 1))) ((b + 10 + 7 * t)) 4 (((zm2 m ((b + 10 + 7 * t)) 3 (m ((b + 14 + 7 * t)) 1))) ((b + 14 + 7 * t)) 2))) ((b + 10 + 7 * t)) 7 (Int32.ofNat 0))) ((b + 10 + 7 * t)) 5 ((((zm2 ((zm2 ((zm2 m ((b + 10 + 7 * t)) 3 (m ((b + 14 + 7 * t)) 1))) ((b + 10 + 7 * t)) 4 (((zm2 m ((b + 10 + 7 * t)) 3 (m ((b + 14 + 7 * t)) 1))) ((b + 14 + 7 * t)) 2))) ((b + 10 + 7 * t)) 7 (Int32.ofNat 0))) ((b + 10 + 7 * t)) 5) + (Int32.ofNat 1)))) ((b + 13 + 7 * t)) y) + (Int32.ofNat 1)))) b (((mv m (b + 15 + 7 * t) 0))) ((((zm2 ((zm2 ((zm2 ((zm2 ((zm2 m ((b + 10 + 7 * t)) 3 (m ((b + 14 + 7 * t)) 1))) ((b + 10 + 7 * t)) 4 (((zm2 m ((b + 10 + 7 * t)) 3 (m ((b + 14 + 7 * t)) 1))) ((b + 14 + 7 * t)) 2))) ((b + 10 + 7 * t)) 7 (Int32.ofNat 0))) ((b + 10 + 7 * t)) 5 ((((zm2 ((zm2 ((zm2 m ((b + 10 + 7 * t)) 3 (m ((b + 14 + 7 * t)) 1))) ((b + 10 + 7 * t)) 4 (((zm2 m ((b + 10 + 7 * t)) 3 (m ((b + 14 + 7 * t)) 1))) ((b + 14 + 7 * t)) 2))) ((b + 10 + 7 * t)) 7 (Int32.ofNat 0))) ((b + 10 + 7 * t)) 5) + (Int32.ofNat 1)))) ((b + 13 + 7 * t)) y ((((zm2 ((zm2 ((zm2 ((zm2 m ((b + 10 + 7 * t)) 3 (m ((b + 14 + 7 * t)) 1))) ((b + 10 + 7 * t)) 4 (((zm2 m ((b + 10 + 7 * t)) 3 (m ((b + 14 + 7 * t)) 1))) ((b + 14 + 7 * t)) 2))) ((b + 10 + 7 * t)) 7 (Int32.ofNat 0))) ((b + 10 + 7 * t)) 5 ((((zm2 ((zm2 ((zm2 m ((b + 10 + 7 * t)) 3 (m ((b + 14 + 7 * t)) 1))) ((b + 10 + 7 * t)) 4 (((zm2 m ((b + 10 + 7 * t)) 3 (m ((b + 14 + 7 * t)) 1))) ((b + 14 + 7 * t)) 2))) ((b + 10 + 7 * t)) 7 (Int32.ofNat 0))) ((b + 10 + 7 * t)) 5) + (Int32.ofNat 1)))) ((b + 13 + 7 * t)) y) + (Int32.ofNat 1)))) ((b + 3)) 6)))) b t)) (b := b) (t := (((x_close ((x_lose ((zm2 ((zm2 ((zm2 ((zm2 ((zm2 m ((b + 10 + 7 * t)) 3 (m ((b + 14 + 7 * t)) 1))) ((b + 10 + 7 * t)) 4 (((zm2 m ((b + 10 + 7 * t)) 3 (m ((b + 14 + 7 * t)) 1))) ((b + 14 + 7 * t)) 2))) ((b + 10 + 7 * t)) 7 (Int32.ofNat 0))) ((b + 10 + 7 * t)) 5 ((((zm2 ((zm2 ((zm2 m ((b + 10 + 7 * t)) 3 (m ((b + 14 + 7 * t)) 1))) ((b + 10 + 7 * t)) 4 (((zm2 m ((b + 10 + 7 * t)) 3 (m ((b + 14 + 7 * t)) 1))) ((b + 14 + 7 * t)) 2))) ((b + 10 + 7 * t)) 7 (Int32.ofNat 0))) ((b + 10 + 7 * t)) 5) + (Int32.ofNat 1)))) ((b + 13 + 7 * t)) y ((((zm2 ((zm2 ((zm2 ((zm2 m ((b + 10 + 7 * t)) 3 (m ((b + 14 + 7 * t)) 1))) ((b + 10 + 7 * t)) 4 (((zm2 m ((b + 10 + 7 * t)) 3 (m ((b + 14 + 7 * t)) 1))) ((b + 14 + 7 * t)) 2))) ((b + 10 + 7 * t)) 7 (Int32.ofNat 0))) ((b + 10 + 7 * t)) 5 ((((zm2 ((zm2 ((zm2 m ((b + 10 + 7 * t)) 3 (m ((b + 14 + 7 * t)) 1))) ((b + 10 + 7 * t)) 4 (((zm2 m ((b + 10 + 7 * t)) 3 (m ((b + 14 + 7 * t)) 1))) ((b + 14 + 7 * t)) 2))) ((b + 10 + 7 * t)) 7 (Int32.ofNat 0))) ((b + 10 + 7 * t)) 5) + (Int32.ofNat 1)))) ((b + 13 + 7 * t)) y) + (Int32.ofNat 1)))) b (((mv m (b + 15 + 7 * t) 0))) ((((zm2 ((zm2 ((zm2 ((zm2 ((zm2 m ((b + 10 + 7 * t)) 3 (m ((b + 14 + 7 * t)) 1))) ((b + 10 + 7 * t)) 4 (((zm2 m ((b + 10 + 7 * t)) 3 (m ((b + 14 + 7 * t)) 1))) ((b + 14 + 7 * t)) 2))) ((b + 10 + 7 * t)) 7 (Int32.ofNat 0))) ((b + 10 + 7 * t)) 5 ((((zm2 ((zm2 ((zm2 m ((b + 10 + 7 * t)) 3 (m ((b + 14 + 7 * t)) 1))) ((b + 10 + 7 * t)) 4 (((zm2 m ((b + 10 + 7 * t)) 3 (m ((b + 14 + 7 * t)) 1))) ((b + 14 + 7 * t)) 2))) ((b + 10 + 7 * t)) 7 (Int32.ofNat 0))) ((b + 10 + 7 * t)) 5) + (Int32.ofNat 1)))) ((b + 13 + 7 * t)) y ((((zm2 ((zm2 ((zm2 ((zm2 m ((b + 10 + 7 * t)) 3 (m ((b + 14 + 7 * t)) 1))) ((b + 10 + 7 * t)) 4 (((zm2 m ((b + 10 + 7 * t)) 3 (m ((b + 14 + 7 * t)) 1))) ((b + 14 + 7 * t)) 2))) ((b + 10 + 7 * t)) 7 (Int32.ofNat 0))) ((b + 10 + 7 * t)) 5 ((((zm2 ((zm2 ((zm2 m ((b + 10 + 7 * t)) 3 (m ((b + 14 + 7 * t)) 1))) ((b + 10 + 7 * t)) 4 (((zm2 m ((b + 10 + 7 * t)) 3 (m ((b + 14 + 7 * t)) 1))) ((b + 14 + 7 * t)) 2))) ((b + 10 + 7 * t)) 7 (Int32.ofNat 0))) ((b + 10 + 7 * t)) 5) + (Int32.ofNat 1)))) ((b + 13 + 7 * t)) y) + (Int32.ofNat 1)))) ((b + 3)) 6)))) b t)) b 7)) (u := (Int32.ofNat t)) (w := (Int32.ofNat 2)) (v := (Int32.ofNat y)) hb (zxn (by simp (disch := omega) only [close_ne, lose_ne, zx_ne]) hn) (zxb (by simp (disch := omega) only [close_ne, lose_ne, zx_ne]) hn60)) (by omega) ?_
  dsimp only [Option.toList, List.cons_append, List.nil_append]
  refine zeK (v := -1) rfl rfl rfl ?_
  exact zeRe rfl rfl rfl rfl (by rfl) (by rfl)
theorem xc_fall {σ : Nat → Nat × (Nat → Int32)} {yy : (Nat → Nat → Int64) × Bool × Nat × Nat} {m : Nat → Nat → Int32} {b : Nat} {t : Nat} {y : Nat} (hb : BB b) (ht : t < 4) (hy : y < 5) (hL : m (b + 15 + 7 * t) 0 = Int32.ofNat (mv m (b + 15 + 7 * t) 0)) (hL4 : mv m (b + 15 + 7 * t) 0 < 4) (hn : m (b + 40) 2 = Int32.ofNat (mv m (b + 40) 2)) (hn60 : mv m (b + 40) 2 < 60) : zF σ 2 624 [.ref b, .int (Int32.ofNat t), .int (Int32.ofNat y)] (zS1, m, yy) (.inl (some (.int (x_fall m b t y).1))) (zS1, ((x_fall m b t y).2), yy) := by
  intro d hd
  obtain ⟨d, rfl⟩ : ∃ k, d = k + 1 := ⟨d - 1, by omega⟩
  exact xp_fall hd hb ht hy hL hL4 hn hn60
end
section
/-! the class's machine is in order -/
noncomputable def okm (m : Nat → Nat → Int32) (a k hi : Nat) : Prop := m a k = Int32.ofNat (mv m a k) ∧ mv m a k ≤ hi
theorem okm.of {m m' : Nat → Nat → Int32} {a k hi : Nat} (h : okm m a k hi) (e : m' a k = m a k) : okm m' a k hi := by
  unfold okm mv at *
  rw [e]; exact h
theorem okm.is {m : Nat → Nat → Int32} {a k hi n : Nat} (e : m a k = Int32.ofNat n) (h : n ≤ hi) (h2 : n < 2147483648) : okm m a k hi := by
  unfold okm mv
  rw [e, nv_on h2]
  exact ⟨rfl, h⟩
noncomputable def CG (m : Nat → Nat → Int32) (b : Nat) : Prop := okm m (b + 40) 2 59 ∧ okm m b 5 4 ∧ (∀ t, t < 4 → okm m (b + 14 + 7 * t) 5 4 ∧ ∀ k, k < 4 → okm m (b + 15 + 7 * t) k 3) ∧ okm m b 12 20 ∧ ∀ l, l < 4 → okm m (b + 5 + l) 0 31
/-- the cells that the order speaks of -/
noncomputable def CGc (b a k : Nat) : Prop := (a = b + 40 ∧ k = 2) ∨ (a = b ∧ (k = 5 ∨ k = 12)) ∨ (∃ t, t < 4 ∧ ((a = b + 14 + 7 * t ∧ k = 5) ∨ a = b + 15 + 7 * t)) ∨ ∃ l, l < 4 ∧ a = b + 5 + l ∧ k = 0
theorem CG.same {m m' : Nat → Nat → Int32} {b : Nat} (h : CG m b) (e : ∀ a k, CGc b a k → m' a k = m a k) : CG m' b :=
  ⟨h.1.of (e _ _ (Or.inl ⟨rfl, rfl⟩)), h.2.1.of (e _ _ (Or.inr (Or.inl ⟨rfl, Or.inl rfl⟩))), fun t ht => ⟨(h.2.2.1 t ht).1.of (e _ _ (Or.inr (Or.inr (Or.inl ⟨t, ht, Or.inl ⟨rfl, rfl⟩⟩)))), fun k hk => ((h.2.2.1 t ht).2 k hk).of (e _ _ (Or.inr (Or.inr (Or.inl ⟨t, ht, Or.inr rfl⟩))))⟩, h.2.2.2.1.of (e _ _ (Or.inr (Or.inl ⟨rfl, Or.inr rfl⟩))), fun l hl => (h.2.2.2.2 l hl).of (e _ _ (Or.inr (Or.inr (Or.inr ⟨l, hl, rfl, rfl⟩))))⟩
theorem zx_o (m : Nat → Nat → Int32) {a k i l : Nat} (x : Int32) (h : ¬ (i = a ∧ l = k)) : zm2 m a k x i l = m i l := by
  by_cases hi : i = a
  · subst hi
    exact zx_nk _ _ (fun e => h ⟨rfl, e⟩)
  · exact zx_ne _ _ _ hi
theorem CG.put {m : Nat → Nat → Int32} {b a k : Nat} (h : CG m b) (x : Int32) (hf : ¬ CGc b a k) : CG (zm2 m a k x) b := h.same (fun i l hc => zx_o _ _ (fun e => hf (by rw [← e.1, ← e.2]; exact hc)))
theorem CG.n {m : Nat → Nat → Int32} {b : Nat} (h : CG m b) : m (b + 40) 2 = Int32.ofNat (mv m (b + 40) 2) := h.1.1
theorem CG.n60 {m : Nat → Nat → Int32} {b : Nat} (h : CG m b) : mv m (b + 40) 2 < 60 := Nat.lt_succ_of_le h.1.2
theorem CG.c {m : Nat → Nat → Int32} {b : Nat} (h : CG m b) : m b 5 = Int32.ofNat (mv m b 5) := h.2.1.1
theorem CG.c4 {m : Nat → Nat → Int32} {b : Nat} (h : CG m b) : mv m b 5 ≤ 4 := h.2.1.2
theorem CG.l {m : Nat → Nat → Int32} {b t : Nat} (h : CG m b) (ht : t < 4) : m (b + 15 + 7 * t) 0 = Int32.ofNat (mv m (b + 15 + 7 * t) 0) := ((h.2.2.1 t ht).2 0 (by omega)).1
theorem CG.l4 {m : Nat → Nat → Int32} {b t : Nat} (h : CG m b) (ht : t < 4) : mv m (b + 15 + 7 * t) 0 < 4 := Nat.lt_succ_of_le ((h.2.2.1 t ht).2 0 (by omega)).2
theorem CG.q {m : Nat → Nat → Int32} {b t : Nat} (h : CG m b) (ht : t < 4) : m (b + 14 + 7 * t) 5 = Int32.ofNat (mv m (b + 14 + 7 * t) 5) := (h.2.2.1 t ht).1.1
theorem CG.q4 {m : Nat → Nat → Int32} {b t : Nat} (h : CG m b) (ht : t < 4) : mv m (b + 14 + 7 * t) 5 ≤ 4 := (h.2.2.1 t ht).1.2
theorem CG.w {m : Nat → Nat → Int32} {b l : Nat} (h : CG m b) (hl : l < 4) : okm m (b + 5 + l) 0 31 := h.2.2.2.2 l hl
theorem CG.of {m m' : Nat → Nat → Int32} {b : Nat} (h : CG m b) (e1 : okm m' (b + 40) 2 59) (e2 : m' b 5 = m b 5) (e3 : ∀ t, t < 4 → okm m' (b + 14 + 7 * t) 5 4) (e4 : ∀ t, t < 4 → ∀ k, k < 4 → m' (b + 15 + 7 * t) k = m (b + 15 + 7 * t) k) (e5 : m' b 12 = m b 12) (e6 : ∀ l, l < 4 → m' (b + 5 + l) 0 = m (b + 5 + l) 0) : CG m' b :=
  ⟨e1, h.2.1.of e2, fun t ht => ⟨e3 t ht, fun k hk => ((h.2.2.1 t ht).2 k hk).of (e4 t ht k hk)⟩, h.2.2.2.1.of e5, fun l hl => (h.2.2.2.2 l hl).of (e6 l hl)⟩
theorem lose_0 {m : Nat → Nat → Int32} {b t i : Nat} {x : Int32} : x_lose m b t x i 0 = m i 0 := by
  unfold x_lose
  exact cndi (fun q : Nat → Nat → Int32 => q i 0 = m i 0) (zx_o _ _ (fun e => absurd e.2 (by omega))) (zx_o _ _ (fun e => absurd e.2 (by omega)))
theorem logAdd_2 {m : Nat → Nat → Int32} {b : Nat} {t u w v : Int32} (h : mv m (b + 40) 2 < 60) : okm (x_logAdd m b t u w v) (b + 40) 2 59 := by
  unfold x_logAdd
  have hm : (mv m (b + 40) 2 + 1) % 60 < 60 := Nat.mod_lt _ (by omega)
  refine cndi (fun q : Nat → Nat → Int32 => okm q (b + 40) 2 59) ?_ ?_
  · exact okm.is (zx_at _ _ _ _) (by omega) (by omega)
  · refine okm.is (n := (mv m (b + 40) 2 + 1) % 60) ?_ (by omega) (by omega)
    rw [zx_nk _ _ (by omega), zx_at]
theorem logAdd_ne {m : Nat → Nat → Int32} {b i l : Nat} {t u w v : Int32} (h1 : i ≠ b + 40) (h2 : i ≠ b + 41) : x_logAdd m b t u w v i l = m i l := by
  unfold x_logAdd
  refine cndi (fun q : Nat → Nat → Int32 => q i l = m i l) ?_ ?_
  · rw [zx_ne _ _ _ h1, zx_ne _ _ _ h2, zx_ne _ _ _ h2, zx_ne _ _ _ h2, zx_ne _ _ _ h2]
  · rw [zx_ne _ _ _ h1, zx_ne _ _ _ h1, zx_ne _ _ _ h2, zx_ne _ _ _ h2, zx_ne _ _ _ h2, zx_ne _ _ _ h2]
theorem close_5 {m : Nat → Nat → Int32} {b t : Nat} : x_close m b t (b + 14 + 7 * t) 5 = Int32.ofNat 0 := by
  unfold x_close
  rw [zx_nk _ _ (by omega), zx_nk _ _ (by omega), zx_nk _ _ (by omega), zx_at]
theorem CG.fall {m : Nat → Nat → Int32} {b t y : Nat} (h : CG m b) (ht : t < 4) (hy : y < 5) : CG (x_fall m b t y).2 b := by
  have hl := h.l4 ht
  unfold x_fall
  dsimp only
  refine h.of (logAdd_2 (zxb (by simp (disch := omega) only [close_ne, lose_ne, zx_ne]) h.n60)) ?_ (fun u hu => ?_) (fun u hu k hk => ?_) ?_ (fun u hu => ?_)
  · rw [logAdd_ne (by omega) (by omega), close_ne (by omega), lose_ne (by omega)]
    simp (disch := omega) only [zx_ne]
  · by_cases hut : u = t
    · subst hut
      refine okm.is (n := 0) ?_ (by omega) (by omega)
      rw [logAdd_ne (by omega) (by omega)]
      exact close_5
    · refine (h.2.2.1 u hu).1.of ?_
      rw [logAdd_ne (by omega) (by omega), close_ne (by omega), lose_ne (by omega)]
      simp (disch := omega) only [zx_ne]
  · rw [logAdd_ne (by omega) (by omega), close_ne (by omega), lose_ne (by omega)]
    simp (disch := omega) only [zx_ne]
  · rw [logAdd_ne (by omega) (by omega), close_ne (by omega), lose_ne (by omega)]
    simp (disch := omega) only [zx_ne]
  · rw [logAdd_ne (by omega) (by omega), close_ne (by omega), lose_0]
    simp (disch := omega) only [zx_ne]
theorem CG.logAdd {m : Nat → Nat → Int32} {b : Nat} (h : CG m b) (t u w v : Int32) : CG (x_logAdd m b t u w v) b :=
  h.of (logAdd_2 h.n60) (logAdd_ne (by omega) (by omega)) (fun u hu => (h.2.2.1 u hu).1.of (logAdd_ne (by omega) (by omega))) (fun u hu k hk => logAdd_ne (by omega) (by omega)) (logAdd_ne (by omega) (by omega)) (fun l hl => logAdd_ne (by omega) (by omega))
theorem CG.close {m : Nat → Nat → Int32} {b t : Nat} (h : CG m b) (ht : t < 4) : CG (x_close m b t) b := by
  refine h.of (h.1.of (close_ne (by omega))) (close_ne (by omega)) (fun u hu => ?_) (fun u hu k hk => close_ne (by omega)) (close_ne (by omega)) (fun l hl => close_ne (by omega))
  by_cases hut : u = t
  · subst hut
    exact okm.is close_5 (by omega) (by omega)
  · exact (h.2.2.1 u hu).1.of (close_ne (by omega))
end
section
noncomputable def x_bitCount (i : Int32) : Int32 := ((((((((i - ((i.toUInt32 >>> (((Int32.ofNat 1)).toUInt32 &&& Int32.toUInt32 31)).toInt32 &&& (Int32.ofNat 1431655765))) &&& (Int32.ofNat 858993459)) + ((((i - ((i.toUInt32 >>> (((Int32.ofNat 1)).toUInt32 &&& Int32.toUInt32 31)).toInt32 &&& (Int32.ofNat 1431655765)))).toUInt32 >>> (((Int32.ofNat 2)).toUInt32 &&& Int32.toUInt32 31)).toInt32 &&& (Int32.ofNat 858993459))) + (((((i - ((i.toUInt32 >>> (((Int32.ofNat 1)).toUInt32 &&& Int32.toUInt32 31)).toInt32 &&& (Int32.ofNat 1431655765))) &&& (Int32.ofNat 858993459)) + ((((i - ((i.toUInt32 >>> (((Int32.ofNat 1)).toUInt32 &&& Int32.toUInt32 31)).toInt32 &&& (Int32.ofNat 1431655765)))).toUInt32 >>> (((Int32.ofNat 2)).toUInt32 &&& Int32.toUInt32 31)).toInt32 &&& (Int32.ofNat 858993459)))).toUInt32 >>> (((Int32.ofNat 4)).toUInt32 &&& Int32.toUInt32 31)).toInt32) &&& (Int32.ofNat 252645135)) + (((((((i - ((i.toUInt32 >>> (((Int32.ofNat 1)).toUInt32 &&& Int32.toUInt32 31)).toInt32 &&& (Int32.ofNat 1431655765))) &&& (Int32.ofNat 858993459)) + ((((i - ((i.toUInt32 >>> (((Int32.ofNat 1)).toUInt32 &&& Int32.toUInt32 31)).toInt32 &&& (Int32.ofNat 1431655765)))).toUInt32 >>> (((Int32.ofNat 2)).toUInt32 &&& Int32.toUInt32 31)).toInt32 &&& (Int32.ofNat 858993459))) + (((((i - ((i.toUInt32 >>> (((Int32.ofNat 1)).toUInt32 &&& Int32.toUInt32 31)).toInt32 &&& (Int32.ofNat 1431655765))) &&& (Int32.ofNat 858993459)) + ((((i - ((i.toUInt32 >>> (((Int32.ofNat 1)).toUInt32 &&& Int32.toUInt32 31)).toInt32 &&& (Int32.ofNat 1431655765)))).toUInt32 >>> (((Int32.ofNat 2)).toUInt32 &&& Int32.toUInt32 31)).toInt32 &&& (Int32.ofNat 858993459)))).toUInt32 >>> (((Int32.ofNat 4)).toUInt32 &&& Int32.toUInt32 31)).toInt32) &&& (Int32.ofNat 252645135))).toUInt32 >>> (((Int32.ofNat 8)).toUInt32 &&& Int32.toUInt32 31)).toInt32) + ((((((((i - ((i.toUInt32 >>> (((Int32.ofNat 1)).toUInt32 &&& Int32.toUInt32 31)).toInt32 &&& (Int32.ofNat 1431655765))) &&& (Int32.ofNat 858993459)) + ((((i - ((i.toUInt32 >>> (((Int32.ofNat 1)).toUInt32 &&& Int32.toUInt32 31)).toInt32 &&& (Int32.ofNat 1431655765)))).toUInt32 >>> (((Int32.ofNat 2)).toUInt32 &&& Int32.toUInt32 31)).toInt32 &&& (Int32.ofNat 858993459))) + (((((i - ((i.toUInt32 >>> (((Int32.ofNat 1)).toUInt32 &&& Int32.toUInt32 31)).toInt32 &&& (Int32.ofNat 1431655765))) &&& (Int32.ofNat 858993459)) + ((((i - ((i.toUInt32 >>> (((Int32.ofNat 1)).toUInt32 &&& Int32.toUInt32 31)).toInt32 &&& (Int32.ofNat 1431655765)))).toUInt32 >>> (((Int32.ofNat 2)).toUInt32 &&& Int32.toUInt32 31)).toInt32 &&& (Int32.ofNat 858993459)))).toUInt32 >>> (((Int32.ofNat 4)).toUInt32 &&& Int32.toUInt32 31)).toInt32) &&& (Int32.ofNat 252645135)) + (((((((i - ((i.toUInt32 >>> (((Int32.ofNat 1)).toUInt32 &&& Int32.toUInt32 31)).toInt32 &&& (Int32.ofNat 1431655765))) &&& (Int32.ofNat 858993459)) + ((((i - ((i.toUInt32 >>> (((Int32.ofNat 1)).toUInt32 &&& Int32.toUInt32 31)).toInt32 &&& (Int32.ofNat 1431655765)))).toUInt32 >>> (((Int32.ofNat 2)).toUInt32 &&& Int32.toUInt32 31)).toInt32 &&& (Int32.ofNat 858993459))) + (((((i - ((i.toUInt32 >>> (((Int32.ofNat 1)).toUInt32 &&& Int32.toUInt32 31)).toInt32 &&& (Int32.ofNat 1431655765))) &&& (Int32.ofNat 858993459)) + ((((i - ((i.toUInt32 >>> (((Int32.ofNat 1)).toUInt32 &&& Int32.toUInt32 31)).toInt32 &&& (Int32.ofNat 1431655765)))).toUInt32 >>> (((Int32.ofNat 2)).toUInt32 &&& Int32.toUInt32 31)).toInt32 &&& (Int32.ofNat 858993459)))).toUInt32 >>> (((Int32.ofNat 4)).toUInt32 &&& Int32.toUInt32 31)).toInt32) &&& (Int32.ofNat 252645135))).toUInt32 >>> (((Int32.ofNat 8)).toUInt32 &&& Int32.toUInt32 31)).toInt32)).toUInt32 >>> (((Int32.ofNat 16)).toUInt32 &&& Int32.toUInt32 31)).toInt32) &&& (Int32.ofNat 63))
theorem xp_bitCount {σ : Nat → Nat × (Nat → Int32)} {yy : (Nat → Nat → Int64) × Bool × Nat × Nat} {m : Nat → Nat → Int32} {i : Int32} {d : Nat} (hd : 1 ≤ d + 1) : zEv σ (d + 1) 2200 0 [some (.int i)] [] (zS1, m, yy) (.inl (some (.int (x_bitCount i)))) (zS1, m, yy) := by
  refine zeP rfl rfl ?_
  refine zeP rfl rfl ?_
  refine zeKn (c := 1) rfl rfl rfl ?_
  refine zeP rfl rfl ?_
  refine zeKn (c := 1431655765) rfl rfl rfl ?_
  refine zeP rfl rfl ?_
  refine zeP rfl rfl ?_
  refine zeP rfl rfl ?_
  refine zeP rfl rfl ?_
  refine zeKn (c := 858993459) rfl rfl rfl ?_
  refine zeP rfl rfl ?_
  refine zeP rfl rfl ?_
  refine zeKn (c := 2) rfl rfl rfl ?_
  refine zeP rfl rfl ?_
  refine zeKn (c := 858993459) rfl rfl rfl ?_
  refine zeP rfl rfl ?_
  refine zeP rfl rfl ?_
  refine zeP rfl rfl ?_
  refine zeP rfl rfl ?_
  refine zeP rfl rfl ?_
  refine zeKn (c := 4) rfl rfl rfl ?_
  refine zeP rfl rfl ?_
  refine zeP rfl rfl ?_
  refine zeKn (c := 252645135) rfl rfl rfl ?_
  refine zeP rfl rfl ?_
  refine zeP rfl rfl ?_
  refine zeP rfl rfl ?_
  refine zeP rfl rfl ?_
  refine zeKn (c := 8) rfl rfl rfl ?_
  refine zeP rfl rfl ?_
  refine zeP rfl rfl ?_
  refine zeP rfl rfl ?_
  refine zeP rfl rfl ?_
  refine zeP rfl rfl ?_
  refine zeKn (c := 16) rfl rfl rfl ?_
  refine zeP rfl rfl ?_
  refine zeP rfl rfl ?_
  refine zeP rfl rfl ?_
  refine zeP rfl rfl ?_
  refine zeKn (c := 63) rfl rfl rfl ?_
  refine zeP rfl rfl ?_
  exact zeRe rfl rfl rfl rfl (by rfl) (by rfl)
theorem xc_bitCount {σ : Nat → Nat × (Nat → Int32)} {yy : (Nat → Nat → Int64) × Bool × Nat × Nat} {m : Nat → Nat → Int32} {i : Int32} : zF σ 1 2200 [.int i] (zS1, m, yy) (.inl (some (.int (x_bitCount i)))) (zS1, m, yy) := by
  intro d hd
  obtain ⟨d, rfl⟩ : ∃ k, d = k + 1 := ⟨d - 1, by omega⟩
  exact xp_bitCount hd 
noncomputable def x_isFull (m : Nat → Nat → Int32) (b : Nat) (t : Nat) (x : Int32) : Int32 := (bif zc1 .ne ((m ((b + 14 + 7 * t)) 7) &&& x) then (Int32.ofNat 0) else (bif zc2 .lt (x_bitCount ((m ((b + 14 + 7 * t)) 7))) (m ((b + 3)) 3) then (Int32.ofNat 0) else (Int32.ofNat 1)))
theorem xp_isFull {σ : Nat → Nat × (Nat → Int32)} {yy : (Nat → Nat → Int64) × Bool × Nat × Nat} {m : Nat → Nat → Int32} {b : Nat} {t : Nat} {x : Int32} {d : Nat} (hd : 2 ≤ d + 1) (hb : BB b) (ht : t < 4) : zEv σ (d + 1) 621 0 [some (.ref b), some (.ref (b + 14 + 7 * t)), some (.int x)] [] (zS1, m, yy) (.inl (some (.int (x_isFull m b t x)))) (zS1, m, yy) := by
  refine zeP rfl rfl ?_
  refine zeGI rfl rfl (shG hb (by omega)) rfl rfl ?_
  refine zeP rfl rfl ?_
  refine zeP rfl rfl ?_
  refine zeB1 rfl rfl (fun h1 => ?_) (fun h1 => ?_)
  · refine zeKn (c := 0) rfl rfl rfl ?_
    exact zeRe rfl rfl rfl rfl (by simp only [x_isFull, h1, cond_true, cond_false] <;> rfl) (by simp only [x_isFull, h1, cond_true, cond_false] <;> rfl)
  · refine zeP rfl rfl ?_
    refine zeGI rfl rfl (shG hb (by omega)) rfl rfl ?_
    refine zeCF rfl rfl rfl rfl rfl rfl (xc_bitCount (m := m) (i := (m ((b + 14 + 7 * t)) 7)) ) (by omega) ?_
    dsimp only [Option.toList, List.cons_append, List.nil_append]
    refine zeP rfl rfl ?_
    refine zeGR rfl rfl (shM hb) rfl rfl ?_
    refine zeKn (c := 3) rfl rfl rfl ?_
    refine zeAL (k := 3) rfl (bb1000 hb (by omega)) (shE hb) rfl (by omega) ?_
    refine zeB2 rfl rfl (fun h2 => ?_) (fun h2 => ?_)
    · refine zeKn (c := 0) rfl rfl rfl ?_
      exact zeRe rfl rfl rfl rfl (by simp only [x_isFull, h1, h2, cond_true, cond_false] <;> rfl) (by simp only [x_isFull, h1, h2, cond_true, cond_false] <;> rfl)
    · refine zeKn (c := 1) rfl rfl rfl ?_
      refine zeP rfl rfl ?_
      exact zeRe rfl rfl rfl rfl (by simp only [x_isFull, h1, h2, cond_true, cond_false] <;> rfl) (by simp only [x_isFull, h1, h2, cond_true, cond_false] <;> rfl)
theorem xc_isFull {σ : Nat → Nat × (Nat → Int32)} {yy : (Nat → Nat → Int64) × Bool × Nat × Nat} {m : Nat → Nat → Int32} {b : Nat} {t : Nat} {x : Int32} (hb : BB b) (ht : t < 4) : zF σ 2 621 [.ref b, .ref (b + 14 + 7 * t), .int x] (zS1, m, yy) (.inl (some (.int (x_isFull m b t x)))) (zS1, m, yy) := by
  intro d hd
  obtain ⟨d, rfl⟩ : ∃ k, d = k + 1 := ⟨d - 1, by omega⟩
  exact xp_isFull hd hb ht
noncomputable def xl_holders (m : Nat → Nat → Int32) (b : Nat) (x : Int32) (u : Int32) (w : Int32) : Nat → Int32 → Nat → Int32
  | 0, s, k => s
  | n + 1, s, k => (bif zc1 .eq w then (bif zc2 .eq (Int32.ofNat k) u then (xl_holders m b x u w n s ((k + 1))) else (bif zc1 .eq (m ((b + 14 + 7 * k)) 0) then (xl_holders m b x u w n s ((k + 1))) else (bif zc1 .eq ((m ((b + 14 + 7 * k)) 7) &&& x) then (xl_holders m b x u w n s ((k + 1))) else (xl_holders m b x u w n ((s ||| ((Int32.ofNat 1) <<< ((Int32.ofNat k) &&& 31)))) ((k + 1)))))) else (bif zc2 .eq (Int32.ofNat k) u then (xl_holders m b x u w n s ((k + 1))) else (bif zc1 .eq (m ((b + 14 + 7 * k)) 0) then (xl_holders m b x u w n s ((k + 1))) else (bif zc1 .eq (((m ((b + 14 + 7 * k)) 6) ||| (m ((b + 14 + 7 * k)) 7)) &&& x) then (xl_holders m b x u w n s ((k + 1))) else (xl_holders m b x u w n ((s ||| ((Int32.ofNat 1) <<< ((Int32.ofNat k) &&& 31)))) ((k + 1)))))))
theorem xw_holders {σ : Nat → Nat × (Nat → Int32)} {yy : (Nat → Nat → Int64) × Bool × Nat × Nat} {m : Nat → Nat → Int32} {b : Nat} {x : Int32} {u : Int32} {w : Int32} {d : Nat} (hd : 2 ≤ d + 1) (hb : BB b) (hc : CG m b) (hc4 : mv m b 5 ≤ 4) : ∀ (n : Nat) (s : Int32) (k : Nat) (x6 : Option Value) (x7 : Option Value), k + n = mv m b 5 → zEv σ (d + 1) 622 6 [some (.ref b), some (.int x), some (.int u), some (.int w), some (.int s), some (.int (Int32.ofNat k)), x6, x7] [] (zS1, m, yy) (.inl (some (.int (xl_holders m b x u w n s k)))) (zS1, m, yy) := by
  intro n
  induction n with
  | zero =>
    intro s k x6 x7 hk
    refine zeP rfl rfl ?_
    refine zeP rfl rfl ?_
    refine zeGI rfl rfl (shM hb) rfl rfl ?_
    rw [hc.c]
    refine zeT2 rfl rfl (zcge (by omega) (by omega) (by omega)) ?_
    refine zeP rfl rfl ?_
    exact zeRe rfl rfl rfl rfl (by rfl) (by rfl)
  | succ n ih =>
    intro s k x6 x7 hk
    refine zeP rfl rfl ?_
    refine zeP rfl rfl ?_
    refine zeGI rfl rfl (shM hb) rfl rfl ?_
    rw [hc.c]
    refine zeF2 rfl rfl (zcge_f (by omega) (by omega) (by omega)) ?_
    refine zeP rfl rfl ?_
    refine zeP rfl rfl ?_
    refine zeCV rfl rfl rfl rfl (shM hb) rfl (xc_strandAt (m := m) (b := b) (t := k) hb (by omega)) (by omega) ?_
    dsimp only [Option.toList, List.cons_append, List.nil_append]
    refine zeGR rfl rfl (shS hb (by omega)) rfl rfl ?_
    refine zeP rfl rfl ?_
    refine zeP rfl rfl ?_
    refine zeB1 rfl rfl (fun h1 => ?_) (fun h1 => ?_)
    · refine zeP rfl rfl ?_
      refine zeGI rfl rfl (shG hb (by omega)) rfl rfl ?_
      refine zeP rfl rfl ?_
      refine zeP rfl rfl ?_
      refine zeP rfl rfl ?_
      refine zeB2 rfl rfl (fun h2 => ?_) (fun h2 => ?_)
      · refine zeInc rfl rfl ?_
        refine zeP rfl rfl ?_
        simp only [xl_holders, h1, h2, cond_true, cond_false]
        exact ih (s) ((k + 1)) (some (.ref (b + 14 + 7 * k))) (some (.int (m ((b + 14 + 7 * k)) 7)))   (by omega) 
      · refine zeP rfl rfl ?_
        refine zeGI rfl rfl (shG hb (by omega)) rfl rfl ?_
        refine zeB1 rfl rfl (fun h3 => ?_) (fun h3 => ?_)
        · refine zeInc rfl rfl ?_
          refine zeP rfl rfl ?_
          simp only [xl_holders, h1, h2, h3, cond_true, cond_false]
          exact ih (s) ((k + 1)) (some (.ref (b + 14 + 7 * k))) (some (.int (m ((b + 14 + 7 * k)) 7)))   (by omega) 
        · refine zeP rfl rfl ?_
          refine zeP rfl rfl ?_
          refine zeP rfl rfl ?_
          refine zeB1 rfl rfl (fun h4 => ?_) (fun h4 => ?_)
          · refine zeInc rfl rfl ?_
            refine zeP rfl rfl ?_
            simp only [xl_holders, h1, h2, h3, h4, cond_true, cond_false]
            exact ih (s) ((k + 1)) (some (.ref (b + 14 + 7 * k))) (some (.int (m ((b + 14 + 7 * k)) 7)))   (by omega) 
          · refine zeP rfl rfl ?_
            refine zeKn (c := 1) rfl rfl rfl ?_
            refine zeP rfl rfl ?_
            refine zeP rfl rfl ?_
            refine zeP rfl rfl ?_
            refine zeP rfl rfl ?_
            refine zeInc rfl rfl ?_
            refine zeP rfl rfl ?_
            simp only [xl_holders, h1, h2, h3, h4, cond_true, cond_false]
            exact ih ((s ||| ((Int32.ofNat 1) <<< ((Int32.ofNat k) &&& 31)))) ((k + 1)) (some (.ref (b + 14 + 7 * k))) (some (.int (m ((b + 14 + 7 * k)) 7)))   (by omega) 
    · refine zeP rfl rfl ?_
      refine zeGI rfl rfl (shG hb (by omega)) rfl rfl ?_
      refine zeP rfl rfl ?_
      refine zeGI rfl rfl (shG hb (by omega)) rfl rfl ?_
      refine zeP rfl rfl ?_
      refine zeP rfl rfl ?_
      refine zeP rfl rfl ?_
      refine zeP rfl rfl ?_
      refine zeP rfl rfl ?_
      refine zeB2 rfl rfl (fun h5 => ?_) (fun h5 => ?_)
      · refine zeInc rfl rfl ?_
        refine zeP rfl rfl ?_
        simp only [xl_holders, h1, h5, cond_true, cond_false]
        exact ih (s) ((k + 1)) (some (.ref (b + 14 + 7 * k))) (some (.int ((m ((b + 14 + 7 * k)) 6) ||| (m ((b + 14 + 7 * k)) 7))))   (by omega) 
      · refine zeP rfl rfl ?_
        refine zeGI rfl rfl (shG hb (by omega)) rfl rfl ?_
        refine zeB1 rfl rfl (fun h6 => ?_) (fun h6 => ?_)
        · refine zeInc rfl rfl ?_
          refine zeP rfl rfl ?_
          simp only [xl_holders, h1, h5, h6, cond_true, cond_false]
          exact ih (s) ((k + 1)) (some (.ref (b + 14 + 7 * k))) (some (.int ((m ((b + 14 + 7 * k)) 6) ||| (m ((b + 14 + 7 * k)) 7))))   (by omega) 
        · refine zeP rfl rfl ?_
          refine zeP rfl rfl ?_
          refine zeP rfl rfl ?_
          refine zeB1 rfl rfl (fun h7 => ?_) (fun h7 => ?_)
          · refine zeInc rfl rfl ?_
            refine zeP rfl rfl ?_
            simp only [xl_holders, h1, h5, h6, h7, cond_true, cond_false]
            exact ih (s) ((k + 1)) (some (.ref (b + 14 + 7 * k))) (some (.int ((m ((b + 14 + 7 * k)) 6) ||| (m ((b + 14 + 7 * k)) 7))))   (by omega) 
          · refine zeP rfl rfl ?_
            refine zeKn (c := 1) rfl rfl rfl ?_
            refine zeP rfl rfl ?_
            refine zeP rfl rfl ?_
            refine zeP rfl rfl ?_
            refine zeP rfl rfl ?_
            refine zeInc rfl rfl ?_
            refine zeP rfl rfl ?_
            simp only [xl_holders, h1, h5, h6, h7, cond_true, cond_false]
            exact ih ((s ||| ((Int32.ofNat 1) <<< ((Int32.ofNat k) &&& 31)))) ((k + 1)) (some (.ref (b + 14 + 7 * k))) (some (.int ((m ((b + 14 + 7 * k)) 6) ||| (m ((b + 14 + 7 * k)) 7))))   (by omega) 
noncomputable def x_holders (m : Nat → Nat → Int32) (b : Nat) (x : Int32) (u : Int32) (w : Int32) : Int32 := (xl_holders m b x u w ((mv m b 5)) ((Int32.ofNat 0)) 0)
theorem xp_holders {σ : Nat → Nat × (Nat → Int32)} {yy : (Nat → Nat → Int64) × Bool × Nat × Nat} {m : Nat → Nat → Int32} {b : Nat} {x : Int32} {u : Int32} {w : Int32} {d : Nat} (hd : 2 ≤ d + 1) (hb : BB b) (hc : CG m b) : zEv σ (d + 1) 622 0 [some (.ref b), some (.int x), some (.int u), some (.int w), none, none, none, none] [] (zS1, m, yy) (.inl (some (.int (x_holders m b x u w)))) (zS1, m, yy) := by
  refine zeKn (c := 0) rfl rfl rfl ?_
  refine zeP rfl rfl ?_
  refine zeKn (c := 0) rfl rfl rfl ?_
  refine zeP rfl rfl ?_
  simp only [x_holders, cond_true, cond_false]
  exact xw_holders (b := b) (x := x) (u := u) (w := w) (m := m) (by omega) hb hc hc.c4 ((mv m b 5)) ((Int32.ofNat 0)) (0) (none) (none)   (by omega) 
theorem xc_holders {σ : Nat → Nat × (Nat → Int32)} {yy : (Nat → Nat → Int64) × Bool × Nat × Nat} {m : Nat → Nat → Int32} {b : Nat} {x : Int32} {u : Int32} {w : Int32} (hb : BB b) (hc : CG m b) : zF σ 2 622 [.ref b, .int x, .int u, .int w] (zS1, m, yy) (.inl (some (.int (x_holders m b x u w)))) (zS1, m, yy) := by
  intro d hd
  obtain ⟨d, rfl⟩ : ∃ k, d = k + 1 := ⟨d - 1, by omega⟩
  exact xp_holders hd hb hc
noncomputable def xl_anyBefore (m : Nat → Nat → Int32) (b : Nat) (x : Int32) (y : Int32) : Nat → Nat → Int32
  | 0, k => (Int32.ofNat 0)
  | n + 1, k => (bif zc1 .eq ((x.toUInt32 >>> (((Int32.ofNat k)).toUInt32 &&& Int32.toUInt32 31)).toInt32 &&& (Int32.ofNat 1)) then (xl_anyBefore m b x y n ((k + 1))) else (bif zc2 .ge (m ((b + 14 + 7 * k)) 3) y then (xl_anyBefore m b x y n ((k + 1))) else (Int32.ofNat 1)))
theorem xw_anyBefore {σ : Nat → Nat × (Nat → Int32)} {yy : (Nat → Nat → Int64) × Bool × Nat × Nat} {m : Nat → Nat → Int32} {b : Nat} {x : Int32} {y : Int32} {d : Nat} (hd : 2 ≤ d + 1) (hb : BB b) (hc : CG m b) (hc4 : mv m b 5 ≤ 4) : ∀ (n : Nat) (k : Nat), k + n = mv m b 5 → zEv σ (d + 1) 623 2 [some (.ref b), some (.int x), some (.int y), some (.int (Int32.ofNat k))] [] (zS1, m, yy) (.inl (some (.int (xl_anyBefore m b x y n k)))) (zS1, m, yy) := by
  intro n
  induction n with
  | zero =>
    intro k hk
    refine zeP rfl rfl ?_
    refine zeP rfl rfl ?_
    refine zeGI rfl rfl (shM hb) rfl rfl ?_
    rw [hc.c]
    refine zeT2 rfl rfl (zcge (by omega) (by omega) (by omega)) ?_
    refine zeKn (c := 0) rfl rfl rfl ?_
    exact zeRe rfl rfl rfl rfl (by rfl) (by rfl)
  | succ n ih =>
    intro k hk
    refine zeP rfl rfl ?_
    refine zeP rfl rfl ?_
    refine zeGI rfl rfl (shM hb) rfl rfl ?_
    rw [hc.c]
    refine zeF2 rfl rfl (zcge_f (by omega) (by omega) (by omega)) ?_
    refine zeP rfl rfl ?_
    refine zeP rfl rfl ?_
    refine zeP rfl rfl ?_
    refine zeKn (c := 1) rfl rfl rfl ?_
    refine zeP rfl rfl ?_
    refine zeB1 rfl rfl (fun h1 => ?_) (fun h1 => ?_)
    · refine zeInc rfl rfl ?_
      refine zeP rfl rfl ?_
      simp only [xl_anyBefore, h1, cond_true, cond_false]
      exact ih ((k + 1))   (by omega) 
    · refine zeP rfl rfl ?_
      refine zeP rfl rfl ?_
      refine zeCV rfl rfl rfl rfl (shM hb) rfl (xc_strandAt (m := m) (b := b) (t := k) hb (by omega)) (by omega) ?_
      dsimp only [Option.toList, List.cons_append, List.nil_append]
      refine zeGR rfl rfl (shS hb (by omega)) rfl rfl ?_
      refine zeGI rfl rfl (shG hb (by omega)) rfl rfl ?_
      refine zeP rfl rfl ?_
      refine zeB2 rfl rfl (fun h2 => ?_) (fun h2 => ?_)
      · refine zeInc rfl rfl ?_
        refine zeP rfl rfl ?_
        simp only [xl_anyBefore, h1, h2, cond_true, cond_false]
        exact ih ((k + 1))   (by omega) 
      · refine zeKn (c := 1) rfl rfl rfl ?_
        exact zeRe rfl rfl rfl rfl (by simp only [xl_anyBefore, h1, h2, cond_true, cond_false] <;> rfl) (by simp only [xl_anyBefore, h1, h2, cond_true, cond_false] <;> rfl)
noncomputable def x_anyBefore (m : Nat → Nat → Int32) (b : Nat) (x : Int32) (y : Int32) : Int32 := (xl_anyBefore m b x y ((mv m b 5)) 0)
theorem xp_anyBefore {σ : Nat → Nat × (Nat → Int32)} {yy : (Nat → Nat → Int64) × Bool × Nat × Nat} {m : Nat → Nat → Int32} {b : Nat} {x : Int32} {y : Int32} {d : Nat} (hd : 2 ≤ d + 1) (hb : BB b) (hc : CG m b) : zEv σ (d + 1) 623 0 [some (.ref b), some (.int x), some (.int y), none] [] (zS1, m, yy) (.inl (some (.int (x_anyBefore m b x y)))) (zS1, m, yy) := by
  refine zeKn (c := 0) rfl rfl rfl ?_
  refine zeP rfl rfl ?_
  simp only [x_anyBefore, cond_true, cond_false]
  exact xw_anyBefore (b := b) (x := x) (y := y) (m := m) (by omega) hb hc hc.c4 ((mv m b 5)) (0)   (by omega) 
theorem xc_anyBefore {σ : Nat → Nat × (Nat → Int32)} {yy : (Nat → Nat → Int64) × Bool × Nat × Nat} {m : Nat → Nat → Int32} {b : Nat} {x : Int32} {y : Int32} (hb : BB b) (hc : CG m b) : zF σ 2 623 [.ref b, .int x, .int y] (zS1, m, yy) (.inl (some (.int (x_anyBefore m b x y)))) (zS1, m, yy) := by
  intro d hd
  obtain ⟨d, rfl⟩ : ∃ k, d = k + 1 := ⟨d - 1, by omega⟩
  exact xp_anyBefore hd hb hc
noncomputable def x_gwrite (m : Nat → Nat → Int32) (b : Nat) (t : Nat) (w : Nat) (v : Int32) (x : Int32) : (Nat → Nat → Int32) := (zm2 ((zm2 ((zm2 m ((b + 16 + 7 * t)) w v)) ((b + 14 + 7 * t)) 9 ((((zm2 m ((b + 16 + 7 * t)) w v)) ((b + 14 + 7 * t)) 9) ||| ((Int32.ofNat 1) <<< ((Int32.ofNat w) &&& 31))))) ((b + 14 + 7 * t)) 7 ((((zm2 ((zm2 m ((b + 16 + 7 * t)) w v)) ((b + 14 + 7 * t)) 9 ((((zm2 m ((b + 16 + 7 * t)) w v)) ((b + 14 + 7 * t)) 9) ||| ((Int32.ofNat 1) <<< ((Int32.ofNat w) &&& 31))))) ((b + 14 + 7 * t)) 7) ||| x))
theorem xp_gwrite {σ : Nat → Nat × (Nat → Int32)} {yy : (Nat → Nat → Int64) × Bool × Nat × Nat} {m : Nat → Nat → Int32} {b : Nat} {t : Nat} {w : Nat} {v : Int32} {x : Int32} {d : Nat} (hd : 1 ≤ d + 1) (hb : BB b) (ht : t < 4) (hw : w < 32) : zEv σ (d + 1) 7 0 [some (.ref (b + 14 + 7 * t)), some (.int (Int32.ofNat w)), some (.int v), some (.int x)] [] (zS1, m, yy) (.inl none) (zS1, ((x_gwrite m b t w v x)), yy) := by
  refine zeP rfl rfl ?_
  refine zeGR rfl rfl (shG hb (by omega)) rfl rfl ?_
  refine zeP rfl rfl ?_
  refine zeKn (c := 31) rfl rfl rfl ?_
  refine zeON (c := w) rfl rfl (zand31 _ hw) ?_
  refine zeP rfl rfl ?_
  refine zeAS (k := w) rfl (shV hb (by omega)) rfl (by omega) ?_
  refine zeP rfl rfl ?_
  refine zeP rfl rfl ?_
  refine zeGI rfl rfl (shG hb (by omega)) rfl rfl ?_
  refine zeKn (c := 1) rfl rfl rfl ?_
  refine zeP rfl rfl ?_
  refine zeP rfl rfl ?_
  refine zeP rfl rfl ?_
  refine zePI rfl rfl (shG hb (by omega)) rfl ?_
  refine zeP rfl rfl ?_
  refine zeP rfl rfl ?_
  refine zeGI rfl rfl (shG hb (by omega)) rfl rfl ?_
  refine zeP rfl rfl ?_
  refine zeP rfl rfl ?_
  refine zePI rfl rfl (shG hb (by omega)) rfl ?_
  exact zeRe rfl rfl rfl rfl (by rfl) (by rfl)
theorem xc_gwrite {σ : Nat → Nat × (Nat → Int32)} {yy : (Nat → Nat → Int64) × Bool × Nat × Nat} {m : Nat → Nat → Int32} {b : Nat} {t : Nat} {w : Nat} {v : Int32} {x : Int32} (hb : BB b) (ht : t < 4) (hw : w < 32) : zF σ 1 7 [.ref (b + 14 + 7 * t), .int (Int32.ofNat w), .int v, .int x] (zS1, m, yy) (.inl none) (zS1, ((x_gwrite m b t w v x)), yy) := by
  intro d hd
  obtain ⟨d, rfl⟩ : ∃ k, d = k + 1 := ⟨d - 1, by omega⟩
  exact xp_gwrite hd hb ht hw
end
section
noncomputable def x_isGuessingX (b : Nat) : Int32 := (Int32.ofNat 0)
theorem xp_isGuessingX {σ : Nat → Nat × (Nat → Int32)} {yy : (Nat → Nat → Int64) × Bool × Nat × Nat} {m : Nat → Nat → Int32} {b : Nat} {d : Nat} (hd : 1 ≤ d + 1) (hb : BB b) : zEv σ (d + 1) 606 0 [some (.ref b), some (.int (-1))] [] (zS1, m, yy) (.inl (some (.int (x_isGuessingX b)))) (zS1, m, yy) := by
  refine zeP rfl rfl ?_
  refine zeK (v := -1) rfl rfl rfl ?_
  refine zeT2 rfl rfl (by decide) ?_
  refine zeKn (c := 0) rfl rfl rfl ?_
  exact zeRe rfl rfl rfl rfl (by rfl) (by rfl)
theorem xc_isGuessingX {σ : Nat → Nat × (Nat → Int32)} {yy : (Nat → Nat → Int64) × Bool × Nat × Nat} {m : Nat → Nat → Int32} {b : Nat} (hb : BB b) : zF σ 1 606 [.ref b, .int (-1)] (zS1, m, yy) (.inl (some (.int (x_isGuessingX b)))) (zS1, m, yy) := by
  intro d hd
  obtain ⟨d, rfl⟩ : ∃ k, d = k + 1 := ⟨d - 1, by omega⟩
  exact xp_isGuessingX hd hb
noncomputable def x_reachC (m : Nat → Nat → Int32) (b : Nat) (t : Nat) (w : Nat) (v : Int32) (x : Int32) (r : Int32) (g : Int32) (o : Int32) : Int32 × (Nat → Nat → Int32) := (bif zc1 .eq g then (bif zc1 .eq r then ((Int32.ofNat 1), m) else ((Int32.ofNat 1), (zm2 m ((b + 1)) w v))) else (bif zc1 .eq r then ((Int32.ofNat 1), (zm2 m ((b + 14 + 7 * t)) 6 ((m ((b + 14 + 7 * t)) 6) ||| x))) else ((Int32.ofNat 1), (x_gwrite m b t w v x))))
theorem xp_reachC {σ : Nat → Nat × (Nat → Int32)} {yy : (Nat → Nat → Int64) × Bool × Nat × Nat} {m : Nat → Nat → Int32} {b : Nat} {t : Nat} {w : Nat} {v : Int32} {x : Int32} {r : Int32} {g : Int32} {o : Int32} {x8 : Option Value} {d : Nat} (hd : 2 ≤ d + 1) (hb : BB b) (ht : t < 4) (hw : w < 32) : zEv σ (d + 1) 620 149 [some (.ref b), some (.int (Int32.ofNat t)), some (.int (Int32.ofNat w)), some (.int v), some (.int x), some (.int r), some (.int g), some (.int o), x8] [] (zS1, m, yy) (.inl (some (.int (x_reachC m b t w v x r g o).1))) (zS1, ((x_reachC m b t w v x r g o).2), yy) := by
  refine zeP rfl rfl ?_
  refine zeB1 rfl rfl (fun h1 => ?_) (fun h1 => ?_)
  · refine zeP rfl rfl ?_
    refine zeT1 rfl rfl h1 ?_
    refine zeP rfl rfl ?_
    refine zeB1 rfl rfl (fun h2 => ?_) (fun h2 => ?_)
    · refine zeKn (c := 1) rfl rfl rfl ?_
      exact zeRe rfl rfl rfl rfl (by simp only [x_reachC, h1, h2, cond_true, cond_false] <;> rfl) (by simp only [x_reachC, h1, h2, cond_true, cond_false] <;> rfl)
    · refine zeP rfl rfl ?_
      refine zeGR rfl rfl (shM hb) rfl rfl ?_
      refine zeP rfl rfl ?_
      refine zeKn (c := 31) rfl rfl rfl ?_
      refine zeON (c := w) rfl rfl (zand31 _ hw) ?_
      refine zeP rfl rfl ?_
      refine zeAS (k := w) rfl (shW hb) rfl (by omega) ?_
      refine zeKn (c := 1) rfl rfl rfl ?_
      exact zeRe rfl rfl rfl rfl (by simp only [x_reachC, h1, h2, cond_true, cond_false] <;> rfl) (by simp only [x_reachC, h1, h2, cond_true, cond_false] <;> rfl)
  · refine zeP rfl rfl ?_
    refine zeB1 rfl rfl (fun h3 => ?_) (fun h3 => ?_)
    · refine zeP rfl rfl ?_
      refine zeF1 rfl rfl h1 ?_
      refine zeP rfl rfl ?_
      refine zeP rfl rfl ?_
      refine zeCV rfl rfl rfl rfl (shM hb) rfl (xc_strandAt (m := m) (b := b) (t := t) hb ht) (by omega) ?_
      dsimp only [Option.toList, List.cons_append, List.nil_append]
      refine zeGR rfl rfl (shS hb (by omega)) rfl rfl ?_
      refine zeP rfl rfl ?_
      refine zeGI rfl rfl (shG hb (by omega)) rfl rfl ?_
      refine zeP rfl rfl ?_
      refine zeP rfl rfl ?_
      refine zePI rfl rfl (shG hb (by omega)) rfl ?_
      refine zeP rfl rfl ?_
      refine zeKn (c := 1) rfl rfl rfl ?_
      exact zeRe rfl rfl rfl rfl (by simp only [x_reachC, h1, h3, cond_true, cond_false] <;> rfl) (by simp only [x_reachC, h1, h3, cond_true, cond_false] <;> rfl)
    · refine zeP rfl rfl ?_
      refine zeP rfl rfl ?_
      refine zeCV rfl rfl rfl rfl (shM hb) rfl (xc_strandAt (m := m) (b := b) (t := t) hb ht) (by omega) ?_
      dsimp only [Option.toList, List.cons_append, List.nil_append]
      refine zeGR rfl rfl (shS hb (by omega)) rfl rfl ?_
      refine zeP rfl rfl ?_
      refine zeP rfl rfl ?_
      refine zeP rfl rfl ?_
      refine zeCV rfl rfl rfl rfl (shG hb (by omega)) rfl (xc_gwrite (m := m) (b := b) (t := t) (w := w) (v := v) (x := x) hb ht hw) (by omega) ?_
      dsimp only [Option.toList, List.cons_append, List.nil_append]
      refine zeP rfl rfl ?_
      refine zeKn (c := 1) rfl rfl rfl ?_
      exact zeRe rfl rfl rfl rfl (by simp only [x_reachC, h1, h3, cond_true, cond_false] <;> rfl) (by simp only [x_reachC, h1, h3, cond_true, cond_false] <;> rfl)
theorem fall_c5 {m : Nat → Nat → Int32} {b t y : Nat} (h : CG m b) (ht : t < 4) (hy : y < 5) : (x_fall m b t y).2 b 5 = m b 5 := by
  have hl := h.l4 ht
  unfold x_fall
  dsimp only
  rw [logAdd_ne (by omega) (by omega), close_ne (by omega), lose_ne (by omega)]
  simp (disch := omega) only [zx_ne]
noncomputable def xl_reachL (b : Nat) (t : Nat) (w : Nat) (v : Int32) (x : Int32) (r : Int32) (g : Int32) (o : Int32) (n5 : Nat) : Nat → Nat → (Nat → Nat → Int32) → Int32 × (Nat → Nat → Int32)
  | 0, k, m => (x_reachC m b t w v x r g o)
  | n + 1, k, m => (bif zc1 .eq ((o.toUInt32 >>> (((Int32.ofNat k)).toUInt32 &&& Int32.toUInt32 31)).toInt32 &&& (Int32.ofNat 1)) then (xl_reachL b t w v x r g o n5 n ((k + 1)) m) else (xl_reachL b t w v x r g o n5 n ((k + 1)) ((x_fall m b k 0).2)))
theorem xw_reachL {σ : Nat → Nat × (Nat → Int32)} {yy : (Nat → Nat → Int64) × Bool × Nat × Nat} {b : Nat} {t : Nat} {w : Nat} {v : Int32} {x : Int32} {r : Int32} {g : Int32} {o : Int32} {n5 : Nat} {d : Nat} (hd : 3 ≤ d + 1) (hb : BB b) (ht : t < 4) (hw : w < 32) (hn4 : n5 ≤ 4) : ∀ (n : Nat) (k : Nat) (m : Nat → Nat → Int32), k + n = n5 → CG m b → m b 5 = Int32.ofNat n5 → zEv σ (d + 1) 620 116 [some (.ref b), some (.int (Int32.ofNat t)), some (.int (Int32.ofNat w)), some (.int v), some (.int x), some (.int r), some (.int g), some (.int o), some (.int (Int32.ofNat k))] [] (zS1, m, yy) (.inl (some (.int (xl_reachL b t w v x r g o n5 n k m).1))) (zS1, ((xl_reachL b t w v x r g o n5 n k m).2), yy) := by
  intro n
  induction n with
  | zero =>
    intro k m hk hc h5
    refine zeP rfl rfl ?_
    refine zeP rfl rfl ?_
    refine zeGI rfl rfl (shM hb) rfl rfl ?_
    rw [h5]
    refine zeT2 rfl rfl (zcge (by omega) (by omega) (by omega)) ?_
    simp only [xl_reachL, cond_true, cond_false]
    exact xp_reachC (b := b) (t := t) (w := w) (v := v) (x := x) (r := r) (g := g) (o := o) (x8 := some (.int (Int32.ofNat k))) (m := m) (by omega) hb ht hw
  | succ n ih =>
    intro k m hk hc h5
    refine zeP rfl rfl ?_
    refine zeP rfl rfl ?_
    refine zeGI rfl rfl (shM hb) rfl rfl ?_
    rw [h5]
    refine zeF2 rfl rfl (zcge_f (by omega) (by omega) (by omega)) ?_
    refine zeP rfl rfl ?_
    refine zeP rfl rfl ?_
    refine zeP rfl rfl ?_
    refine zeKn (c := 1) rfl rfl rfl ?_
    refine zeP rfl rfl ?_
    refine zeB1 rfl rfl (fun h1 => ?_) (fun h1 => ?_)
    · refine zeInc rfl rfl ?_
      refine zeP rfl rfl ?_
      simp only [xl_reachL, h1, cond_true, cond_false]
      exact ih ((k + 1))  m (by omega) (by first | exact hc | exact hc.fall (by omega) (by omega)) (by first | exact h5 | (rw [fall_c5 hc (by omega) (by omega)]; exact h5))
    · refine zeP rfl rfl ?_
      refine zeP rfl rfl ?_
      refine zeKn (c := 0) rfl rfl rfl ?_
      refine zeCV rfl rfl rfl rfl (shM hb) rfl (xc_fall (m := m) (b := b) (t := k) (y := 0) hb (by omega) (by omega) (hc.l (by omega)) (hc.l4 (by omega)) hc.n hc.n60) (by omega) ?_
      dsimp only [Option.toList, List.cons_append, List.nil_append]
      refine zeP rfl rfl ?_
      refine zeInc rfl rfl ?_
      refine zeP rfl rfl ?_
      simp only [xl_reachL, h1, cond_true, cond_false]
      exact ih ((k + 1))  ((x_fall m b k 0).2) (by omega) (by first | exact hc | exact hc.fall (by omega) (by omega)) (by first | exact h5 | (rw [fall_c5 hc (by omega) (by omega)]; exact h5))
noncomputable def x_reachB (m : Nat → Nat → Int32) (b : Nat) (t : Nat) (w : Nat) (v : Int32) (x : Int32) (r : Int32) (g : Int32) : Int32 × (Nat → Nat → Int32) := (bif zc1 .eq g then (xl_reachL b t w v x r g ((x_holders m b x ((Int32.ofNat t)) r)) ((mv m b 5)) ((mv m b 5)) 0 m) else (bif zc1 .eq (m ((b + 3)) 8) then (xl_reachL b t w v x r g ((x_holders m b x ((Int32.ofNat t)) r)) ((mv m b 5)) ((mv m b 5)) 0 m) else (bif zc1 .eq (x_anyBefore m b ((x_holders m b x ((Int32.ofNat t)) r)) ((m ((b + 14 + 7 * t)) 3))) then (xl_reachL b t w v x r g ((x_holders m b x ((Int32.ofNat t)) r)) ((mv m b 5)) ((mv m b 5)) 0 m) else ((x_fall m b t 0).1, (x_fall m b t 0).2))))
theorem xp_reachB {σ : Nat → Nat × (Nat → Int32)} {yy : (Nat → Nat → Int64) × Bool × Nat × Nat} {m : Nat → Nat → Int32} {b : Nat} {t : Nat} {w : Nat} {v : Int32} {x : Int32} {r : Int32} {g : Int32} {d : Nat} (hd : 3 ≤ d + 1) (hb : BB b) (hc : CG m b) (ht : t < 4) (hw : w < 32) : zEv σ (d + 1) 620 60 [some (.ref b), some (.int (Int32.ofNat t)), some (.int (Int32.ofNat w)), some (.int v), some (.int x), some (.int r), some (.int g), none, none] [] (zS1, m, yy) (.inl (some (.int (x_reachB m b t w v x r g).1))) (zS1, ((x_reachB m b t w v x r g).2), yy) := by
  refine zeP rfl rfl ?_
  refine zeP rfl rfl ?_
  refine zeP rfl rfl ?_
  refine zeP rfl rfl ?_
  refine zeCV rfl rfl rfl rfl (shM hb) rfl (xc_holders (m := m) (b := b) (x := x) (u := (Int32.ofNat t)) (w := r) hb hc) (by omega) ?_
  dsimp only [Option.toList, List.cons_append, List.nil_append]
  refine zeP rfl rfl ?_
  refine zeP rfl rfl ?_
  refine zeB1 rfl rfl (fun h1 => ?_) (fun h1 => ?_)
  · refine zeKn (c := 0) rfl rfl rfl ?_
    refine zeP rfl rfl ?_
    simp only [x_reachB, h1, cond_true, cond_false]
    exact xw_reachL (b := b) (t := t) (w := w) (v := v) (x := x) (r := r) (g := g) (o := (x_holders m b x ((Int32.ofNat t)) r)) (n5 := (mv m b 5)) (by omega) hb ht hw hc.c4 ((mv m b 5)) (0)  m (by omega) hc hc.c
  · refine zeP rfl rfl ?_
    refine zeGR rfl rfl (shM hb) rfl rfl ?_
    refine zeKn (c := 8) rfl rfl rfl ?_
    refine zeAL (k := 8) rfl (bb1000 hb (by omega)) (shE hb) rfl (by omega) ?_
    refine zeB1 rfl rfl (fun h2 => ?_) (fun h2 => ?_)
    · refine zeKn (c := 0) rfl rfl rfl ?_
      refine zeP rfl rfl ?_
      simp only [x_reachB, h1, h2, cond_true, cond_false]
      exact xw_reachL (b := b) (t := t) (w := w) (v := v) (x := x) (r := r) (g := g) (o := (x_holders m b x ((Int32.ofNat t)) r)) (n5 := (mv m b 5)) (by omega) hb ht hw hc.c4 ((mv m b 5)) (0)  m (by omega) hc hc.c
    · refine zeP rfl rfl ?_
      refine zeP rfl rfl ?_
      refine zeP rfl rfl ?_
      refine zeP rfl rfl ?_
      refine zeCV rfl rfl rfl rfl (shM hb) rfl (xc_strandAt (m := m) (b := b) (t := t) hb ht) (by omega) ?_
      dsimp only [Option.toList, List.cons_append, List.nil_append]
      refine zeGR rfl rfl (shS hb (by omega)) rfl rfl ?_
      refine zeGI rfl rfl (shG hb (by omega)) rfl rfl ?_
      refine zeCV rfl rfl rfl rfl (shM hb) rfl (xc_anyBefore (m := m) (b := b) (x := (x_holders m b x ((Int32.ofNat t)) r)) (y := (m ((b + 14 + 7 * t)) 3)) hb hc) (by omega) ?_
      dsimp only [Option.toList, List.cons_append, List.nil_append]
      refine zeB1 rfl rfl (fun h3 => ?_) (fun h3 => ?_)
      · refine zeKn (c := 0) rfl rfl rfl ?_
        refine zeP rfl rfl ?_
        simp only [x_reachB, h1, h2, h3, cond_true, cond_false]
        exact xw_reachL (b := b) (t := t) (w := w) (v := v) (x := x) (r := r) (g := g) (o := (x_holders m b x ((Int32.ofNat t)) r)) (n5 := (mv m b 5)) (by omega) hb ht hw hc.c4 ((mv m b 5)) (0)  m (by omega) hc hc.c
      · refine zeP rfl rfl ?_
        refine zeP rfl rfl ?_
        refine zeKn (c := 0) rfl rfl rfl ?_
        refine zeCV rfl rfl rfl rfl (shM hb) rfl (xc_fall (m := m) (b := b) (t := t) (y := 0) hb (by omega) (by omega) (hc.l (by omega)) (hc.l4 (by omega)) hc.n hc.n60) (by omega) ?_
        dsimp only [Option.toList, List.cons_append, List.nil_append]
        exact zeRe rfl rfl rfl rfl (by simp only [x_reachB, h1, h2, h3, cond_true, cond_false] <;> rfl) (by simp only [x_reachB, h1, h2, h3, cond_true, cond_false] <;> rfl)
noncomputable def x_reach (m : Nat → Nat → Int32) (b : Nat) (t : Nat) (w : Nat) (v : Int32) : Int32 × (Nat → Nat → Int32) := (bif zc2 .eq v (-1) then (bif zc1 .eq (x_isGuessing m b t) then (x_reachB m b t w v ((x_blockBit m b ((Int32.ofNat w)))) ((Int32.ofNat 0)) ((x_isGuessing m b t))) else (x_reachB m b t w v ((x_blockBit m b ((Int32.ofNat w)))) ((Int32.ofNat 0)) ((x_isGuessing m b t)))) else (bif zc1 .eq (x_isGuessing m b t) then (x_reachB m b t w v ((x_blockBit m b ((Int32.ofNat w)))) ((Int32.ofNat 1)) ((x_isGuessing m b t))) else (bif zc1 .eq (x_isFull m b t ((x_blockBit m b ((Int32.ofNat w))))) then (x_reachB m b t w v ((x_blockBit m b ((Int32.ofNat w)))) ((Int32.ofNat 1)) ((x_isGuessing m b t))) else ((x_fall m b t 1).1, (x_fall m b t 1).2))))
theorem xp_reach {σ : Nat → Nat × (Nat → Int32)} {yy : (Nat → Nat → Int64) × Bool × Nat × Nat} {m : Nat → Nat → Int32} {b : Nat} {t : Nat} {w : Nat} {v : Int32} {d : Nat} (hd : 3 ≤ d + 1) (hb : BB b) (hc : CG m b) (ht : t < 4) (hw : w < 32) : zEv σ (d + 1) 620 0 [some (.ref b), some (.int (Int32.ofNat t)), some (.int (Int32.ofNat w)), some (.int v), none, none, none, none, none] [] (zS1, m, yy) (.inl (some (.int (x_reach m b t w v).1))) (zS1, ((x_reach m b t w v).2), yy) := by
  refine zeP rfl rfl ?_
  refine zeP rfl rfl ?_
  refine zeCV rfl rfl rfl rfl (shM hb) rfl (xc_blockBit (m := m) (b := b) (w := (Int32.ofNat w)) hb) (by omega) ?_
  dsimp only [Option.toList, List.cons_append, List.nil_append]
  refine zeP rfl rfl ?_
  refine zeP rfl rfl ?_
  refine zeK (v := -1) rfl rfl rfl ?_
  refine zeB2 rfl rfl (fun h1 => ?_) (fun h1 => ?_)
  · refine zeKn (c := 0) rfl rfl rfl ?_
    refine zeP rfl rfl ?_
    refine zeP rfl rfl ?_
    refine zeP rfl rfl ?_
    refine zeCV rfl rfl rfl rfl (shM hb) rfl (xc_isGuessing (m := m) (b := b) (t := t) hb ht) (by omega) ?_
    dsimp only [Option.toList, List.cons_append, List.nil_append]
    refine zeP rfl rfl ?_
    refine zeP rfl rfl ?_
    refine zeB1 rfl rfl (fun h2 => ?_) (fun h2 => ?_)
    · simp only [x_reach, h1, h2, cond_true, cond_false]
      exact xp_reachB (b := b) (t := t) (w := w) (v := v) (x := (x_blockBit m b ((Int32.ofNat w)))) (r := (Int32.ofNat 0)) (g := (x_isGuessing m b t)) (m := m) (by omega) hb hc ht hw
    · refine zeP rfl rfl ?_
      refine zeT1 rfl rfl (show zc1 .eq (Int32.ofNat 0) = true by decide) ?_
      simp only [x_reach, h1, h2, cond_true, cond_false]
      exact xp_reachB (b := b) (t := t) (w := w) (v := v) (x := (x_blockBit m b ((Int32.ofNat w)))) (r := (Int32.ofNat 0)) (g := (x_isGuessing m b t)) (m := m) (by omega) hb hc ht hw
  · refine zeKn (c := 1) rfl rfl rfl ?_
    refine zeP rfl rfl ?_
    refine zeP rfl rfl ?_
    refine zeP rfl rfl ?_
    refine zeP rfl rfl ?_
    refine zeCV rfl rfl rfl rfl (shM hb) rfl (xc_isGuessing (m := m) (b := b) (t := t) hb ht) (by omega) ?_
    dsimp only [Option.toList, List.cons_append, List.nil_append]
    refine zeP rfl rfl ?_
    refine zeP rfl rfl ?_
    refine zeB1 rfl rfl (fun h3 => ?_) (fun h3 => ?_)
    · simp only [x_reach, h1, h3, cond_true, cond_false]
      exact xp_reachB (b := b) (t := t) (w := w) (v := v) (x := (x_blockBit m b ((Int32.ofNat w)))) (r := (Int32.ofNat 1)) (g := (x_isGuessing m b t)) (m := m) (by omega) hb hc ht hw
    · refine zeP rfl rfl ?_
      refine zeF1 rfl rfl (show zc1 .eq (Int32.ofNat 1) = false by decide) ?_
      refine zeP rfl rfl ?_
      refine zeP rfl rfl ?_
      refine zeP rfl rfl ?_
      refine zeCV rfl rfl rfl rfl (shM hb) rfl (xc_strandAt (m := m) (b := b) (t := t) hb ht) (by omega) ?_
      dsimp only [Option.toList, List.cons_append, List.nil_append]
      refine zeGR rfl rfl (shS hb (by omega)) rfl rfl ?_
      refine zeP rfl rfl ?_
      refine zeCV rfl rfl rfl rfl (shM hb) rfl (xc_isFull (m := m) (b := b) (t := t) (x := (x_blockBit m b ((Int32.ofNat w)))) hb ht) (by omega) ?_
      dsimp only [Option.toList, List.cons_append, List.nil_append]
      refine zeB1 rfl rfl (fun h4 => ?_) (fun h4 => ?_)
      · simp only [x_reach, h1, h3, h4, cond_true, cond_false]
        exact xp_reachB (b := b) (t := t) (w := w) (v := v) (x := (x_blockBit m b ((Int32.ofNat w)))) (r := (Int32.ofNat 1)) (g := (x_isGuessing m b t)) (m := m) (by omega) hb hc ht hw
      · refine zeP rfl rfl ?_
        refine zeP rfl rfl ?_
        refine zeKn (c := 1) rfl rfl rfl ?_
        refine zeCV rfl rfl rfl rfl (shM hb) rfl (xc_fall (m := m) (b := b) (t := t) (y := 1) hb (by omega) (by omega) (hc.l (by omega)) (hc.l4 (by omega)) hc.n hc.n60) (by omega) ?_
        dsimp only [Option.toList, List.cons_append, List.nil_append]
        exact zeRe rfl rfl rfl rfl (by simp only [x_reach, h1, h3, h4, cond_true, cond_false] <;> rfl) (by simp only [x_reach, h1, h3, h4, cond_true, cond_false] <;> rfl)
theorem xc_reach {σ : Nat → Nat × (Nat → Int32)} {yy : (Nat → Nat → Int64) × Bool × Nat × Nat} {m : Nat → Nat → Int32} {b : Nat} {t : Nat} {w : Nat} {v : Int32} (hb : BB b) (hc : CG m b) (ht : t < 4) (hw : w < 32) : zF σ 3 620 [.ref b, .int (Int32.ofNat t), .int (Int32.ofNat w), .int v] (zS1, m, yy) (.inl (some (.int (x_reach m b t w v).1))) (zS1, ((x_reach m b t w v).2), yy) := by
  intro d hd
  obtain ⟨d, rfl⟩ : ∃ k, d = k + 1 := ⟨d - 1, by omega⟩
  exact xp_reach hd hb hc ht hw
end
section
/-! the class's reach keeps the order -/
theorem ncV {b t k : Nat} (ht : t < 4) : ¬ CGc b (b + 16 + 7 * t) k := by
  intro h
  rcases h with ⟨_, _⟩ | ⟨_, _⟩ | ⟨u, _, ⟨_, _⟩ | _⟩ | ⟨l, _, _, _⟩ <;> omega
theorem ncG {b t k : Nat} (ht : t < 4) (hk : k ≠ 5) : ¬ CGc b (b + 14 + 7 * t) k := by
  intro h
  rcases h with ⟨_, _⟩ | ⟨_, _⟩ | ⟨u, _, ⟨_, _⟩ | _⟩ | ⟨l, _, _, _⟩ <;> omega
theorem ncW {b k : Nat} : ¬ CGc b (b + 1) k := by
  intro h
  rcases h with ⟨_, _⟩ | ⟨_, _⟩ | ⟨u, _, ⟨_, _⟩ | _⟩ | ⟨l, _, _, _⟩ <;> omega
theorem ncS {b t k : Nat} (ht : t < 4) : ¬ CGc b (b + 10 + 7 * t) k := by
  intro h
  rcases h with ⟨_, _⟩ | ⟨_, _⟩ | ⟨u, _, ⟨_, _⟩ | _⟩ | ⟨l, _, _, _⟩ <;> omega
theorem ncL {b l k : Nat} (hl : l < 4) (hk : k ≠ 0) : ¬ CGc b (b + 5 + l) k := by
  intro h
  rcases h with ⟨_, _⟩ | ⟨_, _⟩ | ⟨u, _, ⟨_, _⟩ | _⟩ | ⟨l, _, _, _⟩ <;> omega
theorem ncM {b k : Nat} (h5 : k ≠ 5) (h12 : k ≠ 12) : ¬ CGc b b k := by
  intro h
  rcases h with ⟨_, _⟩ | ⟨_, _⟩ | ⟨u, _, ⟨_, _⟩ | _⟩ | ⟨l, _, _, _⟩ <;> omega
theorem ncO {b k : Nat} : ¬ CGc b (b + 38) k ∧ ¬ CGc b (b + 39) k := by
  refine ⟨fun h => ?_, fun h => ?_⟩
  · rcases h with ⟨_, _⟩ | ⟨_, _⟩ | ⟨u, _, ⟨_, _⟩ | _⟩ | ⟨l, _, _, _⟩ <;> omega
  · rcases h with ⟨_, _⟩ | ⟨_, _⟩ | ⟨u, _, ⟨_, _⟩ | _⟩ | ⟨l, _, _, _⟩ <;> omega
noncomputable abbrev QM : Type := Int32 × (Nat → Nat → Int32)
theorem CG.gwrite {m : Nat → Nat → Int32} {b t w : Nat} {v x : Int32} (h : CG m b) (ht : t < 4) : CG (x_gwrite m b t w v x) b := by
  unfold x_gwrite
  exact ((h.put _ (ncV ht)).put _ (ncG ht (by omega))).put _ (ncG ht (by omega))
theorem CG.reachC {m : Nat → Nat → Int32} {b t w : Nat} {v x r g o : Int32} (h : CG m b) (ht : t < 4) : CG (x_reachC m b t w v x r g o).2 b := by
  unfold x_reachC
  exact cndi (fun q : QM => CG q.2 b) (cndi (fun q : QM => CG q.2 b) h (h.put _ ncW)) (cndi (fun q : QM => CG q.2 b) (h.put _ (ncG ht (by omega))) (h.gwrite ht))
theorem reachL_ok {b t w n5 : Nat} {v x r g o : Int32} (ht : t < 4) (hn : n5 ≤ 4) : ∀ (n k : Nat) (m : Nat → Nat → Int32), k + n = n5 → CG m b → CG (xl_reachL b t w v x r g o n5 n k m).2 b := by
  intro n
  induction n with
  | zero => intro k m hk h; exact h.reachC ht
  | succ n ih =>
    intro k m hk h
    rw [xl_reachL]
    exact cndi (fun q : QM => CG q.2 b) (ih _ _ (by omega) h) (ih _ _ (by omega) (h.fall (by omega) (by omega)))
theorem CG.reachB {m : Nat → Nat → Int32} {b t w : Nat} {v x r g : Int32} (h : CG m b) (ht : t < 4) : CG (x_reachB m b t w v x r g).2 b := by
  unfold x_reachB
  have a := reachL_ok (b := b) (w := w) (v := v) (x := x) (r := r) (g := g) (o := x_holders m b x (Int32.ofNat t) r) ht h.c4 (mv m b 5) 0 m (by omega) h
  have f := h.fall ht (show 0 < 5 by omega)
  generalize xl_reachL b t w v x r g (x_holders m b x (Int32.ofNat t) r) (mv m b 5) (mv m b 5) 0 m = c at a ⊢
  generalize x_fall m b t 0 = cf at f ⊢
  exact cndi (fun q : QM => CG q.2 b) a (cndi (fun q : QM => CG q.2 b) a (cndi (fun q : QM => CG q.2 b) a f))
theorem CG.reach {m : Nat → Nat → Int32} {b t w : Nat} {v : Int32} (h : CG m b) (ht : t < 4) : CG (x_reach m b t w v).2 b := by
  unfold x_reach
  have f := h.fall ht (show 1 < 5 by omega)
  generalize x_fall m b t 1 = cf at f ⊢
  exact cndi (fun q : QM => CG q.2 b) (cndi (fun q : QM => CG q.2 b) (h.reachB ht) (h.reachB ht)) (cndi (fun q : QM => CG q.2 b) (h.reachB ht) (cndi (fun q : QM => CG q.2 b) (h.reachB ht) f))
end
section
theorem zxle {m m' : Nat → Nat → Int32} {a k c : Nat} (e : m' a k = m a k) (h : mv m a k ≤ c) : mv m' a k ≤ c := by
  unfold mv at *
  rw [e]; exact h
theorem leaveOut_ne {m : Nat → Nat → Int32} {b t i l : Nat} {x : Int32} (h1 : i ≠ b + 14 + 7 * t) (h2 : i ≠ b + 15 + 7 * t) : x_leaveOut m b t x i l = m i l := by
  unfold x_leaveOut
  refine cndi (fun q : Nat → Nat → Int32 => q i l = m i l) rfl ?_
  rw [zx_ne _ _ _ h1, zx_ne _ _ _ h2]
theorem begin_ne {m : Nat → Nat → Int32} {b t i l : Nat} {x y z : Int32} (h : i ≠ b + 14 + 7 * t) : x_begin m b t x y z i l = m i l := by
  unfold x_begin
  rw [zx_ne _ _ _ h, zx_ne _ _ _ h, zx_ne _ _ _ h, zx_ne _ _ _ h]
theorem begin_5 {m : Nat → Nat → Int32} {b t : Nat} {x y z : Int32} : x_begin m b t x y z (b + 14 + 7 * t) 5 = m (b + 14 + 7 * t) 5 := by
  unfold x_begin
  rw [zx_nk _ _ (by omega), zx_nk _ _ (by omega), zx_nk _ _ (by omega), zx_nk _ _ (by omega)]
theorem CG.w32 {m : Nat → Nat → Int32} {b l : Nat} (h : CG m b) (hl : l < 4) : mv m (b + 5 + l) 0 < 32 := Nat.lt_succ_of_le (h.w hl).2
noncomputable def x_takePB (m : Nat → Nat → Int32) (b : Nat) (t : Nat) (l : Nat) : Int32 × (Nat → Nat → Int32) := (bif zc1 .eq (m ((b + 1)) ((mv m (b + 5 + l) 0))) then (bif zc2 .ge (m ((b + 10 + 7 * t)) 5) (m ((b + 3)) 1) then (bif zc1 .ne ((((zm2 ((zm2 ((x_reach m b t ((mv m (b + 5 + l) 0)) ((Int32.ofNat 1))).2) ((b + 10 + 7 * t)) 5 (Int32.ofNat 0))) ((b + 5 + l)) 2 ((((zm2 ((x_reach m b t ((mv m (b + 5 + l) 0)) ((Int32.ofNat 1))).2) ((b + 10 + 7 * t)) 5 (Int32.ofNat 0))) ((b + 5 + l)) 2) + (Int32.ofNat 1)))) ((b + 5 + l)) 2) - (((zm2 ((zm2 ((x_reach m b t ((mv m (b + 5 + l) 0)) ((Int32.ofNat 1))).2) ((b + 10 + 7 * t)) 5 (Int32.ofNat 0))) ((b + 5 + l)) 2 ((((zm2 ((x_reach m b t ((mv m (b + 5 + l) 0)) ((Int32.ofNat 1))).2) ((b + 10 + 7 * t)) 5 (Int32.ofNat 0))) ((b + 5 + l)) 2) + (Int32.ofNat 1)))) ((b + 5 + l)) 2) / (if (Int32.ofNat 1) < (((zm2 ((zm2 ((x_reach m b t ((mv m (b + 5 + l) 0)) ((Int32.ofNat 1))).2) ((b + 10 + 7 * t)) 5 (Int32.ofNat 0))) ((b + 5 + l)) 2 ((((zm2 ((x_reach m b t ((mv m (b + 5 + l) 0)) ((Int32.ofNat 1))).2) ((b + 10 + 7 * t)) 5 (Int32.ofNat 0))) ((b + 5 + l)) 2) + (Int32.ofNat 1)))) ((b + 3)) 7) then (((zm2 ((zm2 ((x_reach m b t ((mv m (b + 5 + l) 0)) ((Int32.ofNat 1))).2) ((b + 10 + 7 * t)) 5 (Int32.ofNat 0))) ((b + 5 + l)) 2 ((((zm2 ((x_reach m b t ((mv m (b + 5 + l) 0)) ((Int32.ofNat 1))).2) ((b + 10 + 7 * t)) 5 (Int32.ofNat 0))) ((b + 5 + l)) 2) + (Int32.ofNat 1)))) ((b + 3)) 7) else (Int32.ofNat 1)) * (if (Int32.ofNat 1) < (((zm2 ((zm2 ((x_reach m b t ((mv m (b + 5 + l) 0)) ((Int32.ofNat 1))).2) ((b + 10 + 7 * t)) 5 (Int32.ofNat 0))) ((b + 5 + l)) 2 ((((zm2 ((x_reach m b t ((mv m (b + 5 + l) 0)) ((Int32.ofNat 1))).2) ((b + 10 + 7 * t)) 5 (Int32.ofNat 0))) ((b + 5 + l)) 2) + (Int32.ofNat 1)))) ((b + 3)) 7) then (((zm2 ((zm2 ((x_reach m b t ((mv m (b + 5 + l) 0)) ((Int32.ofNat 1))).2) ((b + 10 + 7 * t)) 5 (Int32.ofNat 0))) ((b + 5 + l)) 2 ((((zm2 ((x_reach m b t ((mv m (b + 5 + l) 0)) ((Int32.ofNat 1))).2) ((b + 10 + 7 * t)) 5 (Int32.ofNat 0))) ((b + 5 + l)) 2) + (Int32.ofNat 1)))) ((b + 3)) 7) else (Int32.ofNat 1))) then ((Int32.ofNat 1), (x_logAdd ((zm2 ((zm2 ((x_reach m b t ((mv m (b + 5 + l) 0)) ((Int32.ofNat 1))).2) ((b + 10 + 7 * t)) 5 (Int32.ofNat 0))) ((b + 5 + l)) 2 ((((zm2 ((x_reach m b t ((mv m (b + 5 + l) 0)) ((Int32.ofNat 1))).2) ((b + 10 + 7 * t)) 5 (Int32.ofNat 0))) ((b + 5 + l)) 2) + (Int32.ofNat 1)))) b ((((zm2 ((zm2 ((x_reach m b t ((mv m (b + 5 + l) 0)) ((Int32.ofNat 1))).2) ((b + 10 + 7 * t)) 5 (Int32.ofNat 0))) ((b + 5 + l)) 2 ((((zm2 ((x_reach m b t ((mv m (b + 5 + l) 0)) ((Int32.ofNat 1))).2) ((b + 10 + 7 * t)) 5 (Int32.ofNat 0))) ((b + 5 + l)) 2) + (Int32.ofNat 1)))) b 7)) ((Int32.ofNat t)) ((Int32.ofNat 3)) ((Int32.ofNat l)))) else ((Int32.ofNat 1), (x_logAdd ((x_gain ((zm2 ((zm2 ((x_reach m b t ((mv m (b + 5 + l) 0)) ((Int32.ofNat 1))).2) ((b + 10 + 7 * t)) 5 (Int32.ofNat 0))) ((b + 5 + l)) 2 ((((zm2 ((x_reach m b t ((mv m (b + 5 + l) 0)) ((Int32.ofNat 1))).2) ((b + 10 + 7 * t)) 5 (Int32.ofNat 0))) ((b + 5 + l)) 2) + (Int32.ofNat 1)))) b l ((Int32.ofNat 1)))) b ((((x_gain ((zm2 ((zm2 ((x_reach m b t ((mv m (b + 5 + l) 0)) ((Int32.ofNat 1))).2) ((b + 10 + 7 * t)) 5 (Int32.ofNat 0))) ((b + 5 + l)) 2 ((((zm2 ((x_reach m b t ((mv m (b + 5 + l) 0)) ((Int32.ofNat 1))).2) ((b + 10 + 7 * t)) 5 (Int32.ofNat 0))) ((b + 5 + l)) 2) + (Int32.ofNat 1)))) b l ((Int32.ofNat 1)))) b 7)) ((Int32.ofNat t)) ((Int32.ofNat 3)) ((Int32.ofNat l))))) else (bif zc2 .lt (m ((b + 5 + l)) 1) (m ((b + 3)) 4) then (bif zc1 .ne ((((zm2 ((zm2 ((x_reach m b t ((mv m (b + 5 + l) 0)) ((Int32.ofNat 1))).2) ((b + 10 + 7 * t)) 5 (Int32.ofNat 0))) ((b + 5 + l)) 2 ((((zm2 ((x_reach m b t ((mv m (b + 5 + l) 0)) ((Int32.ofNat 1))).2) ((b + 10 + 7 * t)) 5 (Int32.ofNat 0))) ((b + 5 + l)) 2) + (Int32.ofNat 1)))) ((b + 5 + l)) 2) - (((zm2 ((zm2 ((x_reach m b t ((mv m (b + 5 + l) 0)) ((Int32.ofNat 1))).2) ((b + 10 + 7 * t)) 5 (Int32.ofNat 0))) ((b + 5 + l)) 2 ((((zm2 ((x_reach m b t ((mv m (b + 5 + l) 0)) ((Int32.ofNat 1))).2) ((b + 10 + 7 * t)) 5 (Int32.ofNat 0))) ((b + 5 + l)) 2) + (Int32.ofNat 1)))) ((b + 5 + l)) 2) / (if (Int32.ofNat 1) < (((zm2 ((zm2 ((x_reach m b t ((mv m (b + 5 + l) 0)) ((Int32.ofNat 1))).2) ((b + 10 + 7 * t)) 5 (Int32.ofNat 0))) ((b + 5 + l)) 2 ((((zm2 ((x_reach m b t ((mv m (b + 5 + l) 0)) ((Int32.ofNat 1))).2) ((b + 10 + 7 * t)) 5 (Int32.ofNat 0))) ((b + 5 + l)) 2) + (Int32.ofNat 1)))) ((b + 3)) 7) then (((zm2 ((zm2 ((x_reach m b t ((mv m (b + 5 + l) 0)) ((Int32.ofNat 1))).2) ((b + 10 + 7 * t)) 5 (Int32.ofNat 0))) ((b + 5 + l)) 2 ((((zm2 ((x_reach m b t ((mv m (b + 5 + l) 0)) ((Int32.ofNat 1))).2) ((b + 10 + 7 * t)) 5 (Int32.ofNat 0))) ((b + 5 + l)) 2) + (Int32.ofNat 1)))) ((b + 3)) 7) else (Int32.ofNat 1)) * (if (Int32.ofNat 1) < (((zm2 ((zm2 ((x_reach m b t ((mv m (b + 5 + l) 0)) ((Int32.ofNat 1))).2) ((b + 10 + 7 * t)) 5 (Int32.ofNat 0))) ((b + 5 + l)) 2 ((((zm2 ((x_reach m b t ((mv m (b + 5 + l) 0)) ((Int32.ofNat 1))).2) ((b + 10 + 7 * t)) 5 (Int32.ofNat 0))) ((b + 5 + l)) 2) + (Int32.ofNat 1)))) ((b + 3)) 7) then (((zm2 ((zm2 ((x_reach m b t ((mv m (b + 5 + l) 0)) ((Int32.ofNat 1))).2) ((b + 10 + 7 * t)) 5 (Int32.ofNat 0))) ((b + 5 + l)) 2 ((((zm2 ((x_reach m b t ((mv m (b + 5 + l) 0)) ((Int32.ofNat 1))).2) ((b + 10 + 7 * t)) 5 (Int32.ofNat 0))) ((b + 5 + l)) 2) + (Int32.ofNat 1)))) ((b + 3)) 7) else (Int32.ofNat 1))) then ((Int32.ofNat 1), (x_logAdd ((zm2 ((zm2 ((x_reach m b t ((mv m (b + 5 + l) 0)) ((Int32.ofNat 1))).2) ((b + 10 + 7 * t)) 5 (Int32.ofNat 0))) ((b + 5 + l)) 2 ((((zm2 ((x_reach m b t ((mv m (b + 5 + l) 0)) ((Int32.ofNat 1))).2) ((b + 10 + 7 * t)) 5 (Int32.ofNat 0))) ((b + 5 + l)) 2) + (Int32.ofNat 1)))) b ((((zm2 ((zm2 ((x_reach m b t ((mv m (b + 5 + l) 0)) ((Int32.ofNat 1))).2) ((b + 10 + 7 * t)) 5 (Int32.ofNat 0))) ((b + 5 + l)) 2 ((((zm2 ((x_reach m b t ((mv m (b + 5 + l) 0)) ((Int32.ofNat 1))).2) ((b + 10 + 7 * t)) 5 (Int32.ofNat 0))) ((b + 5 + l)) 2) + (Int32.ofNat 1)))) b 7)) ((Int32.ofNat t)) ((Int32.ofNat 3)) ((Int32.ofNat l)))) else ((Int32.ofNat 1), (x_logAdd ((x_gain ((zm2 ((zm2 ((x_reach m b t ((mv m (b + 5 + l) 0)) ((Int32.ofNat 1))).2) ((b + 10 + 7 * t)) 5 (Int32.ofNat 0))) ((b + 5 + l)) 2 ((((zm2 ((x_reach m b t ((mv m (b + 5 + l) 0)) ((Int32.ofNat 1))).2) ((b + 10 + 7 * t)) 5 (Int32.ofNat 0))) ((b + 5 + l)) 2) + (Int32.ofNat 1)))) b l ((Int32.ofNat 1)))) b ((((x_gain ((zm2 ((zm2 ((x_reach m b t ((mv m (b + 5 + l) 0)) ((Int32.ofNat 1))).2) ((b + 10 + 7 * t)) 5 (Int32.ofNat 0))) ((b + 5 + l)) 2 ((((zm2 ((x_reach m b t ((mv m (b + 5 + l) 0)) ((Int32.ofNat 1))).2) ((b + 10 + 7 * t)) 5 (Int32.ofNat 0))) ((b + 5 + l)) 2) + (Int32.ofNat 1)))) b l ((Int32.ofNat 1)))) b 7)) ((Int32.ofNat t)) ((Int32.ofNat 3)) ((Int32.ofNat l))))) else ((Int32.ofNat 1), (x_logAdd ((zm2 ((x_leaveOut ((x_begin m b t ((m ((b + 10 + 7 * t)) 3)) ((m ((b + 10 + 7 * t)) 4)) ((m b 7)))) b t ((Int32.ofNat l)))) ((b + 14 + 7 * t)) 6 (x_blockBit ((x_leaveOut ((x_begin m b t ((m ((b + 10 + 7 * t)) 3)) ((m ((b + 10 + 7 * t)) 4)) ((m b 7)))) b t ((Int32.ofNat l)))) b ((((x_leaveOut ((x_begin m b t ((m ((b + 10 + 7 * t)) 3)) ((m ((b + 10 + 7 * t)) 4)) ((m b 7)))) b t ((Int32.ofNat l)))) ((b + 5 + l)) 0))))) b ((((zm2 ((x_leaveOut ((x_begin m b t ((m ((b + 10 + 7 * t)) 3)) ((m ((b + 10 + 7 * t)) 4)) ((m b 7)))) b t ((Int32.ofNat l)))) ((b + 14 + 7 * t)) 6 (x_blockBit ((x_leaveOut ((x_begin m b t ((m ((b + 10 + 7 * t)) 3)) ((m ((b + 10 + 7 * t)) 4)) ((m b 7)))) b t ((Int32.ofNat l)))) b ((((x_leaveOut ((x_begin m b t ((m ((b + 10 + 7 * t)) 3)) ((m ((b + 10 + 7 * t)) 4)) ((m b 7)))) b t ((Int32.ofNat l)))) ((b + 5 + l)) 0))))) b 7)) ((Int32.ofNat t)) ((Int32.ofNat 0)) ((Int32.ofNat l)))))) else ((Int32.ofNat 0), m))
theorem xp_takePB {σ : Nat → Nat × (Nat → Int32)} {yy : (Nat → Nat → Int64) × Bool × Nat × Nat} {m : Nat → Nat → Int32} {b : Nat} {t : Nat} {l : Nat} {d : Nat} (hd : 4 ≤ d + 1) (hb : BB b) (hc : CG m b) (ht : t < 4) (hl : l < 4) : zEv σ (d + 1) 613 19 [some (.ref b), some (.int (Int32.ofNat t)), some (.ref (b + 10 + 7 * t)), some (.int (Int32.ofNat l)), some (.ref (b + 5 + l))] [] (zS1, m, yy) (.inl (some (.int (x_takePB m b t l).1))) (zS1, ((x_takePB m b t l).2), yy) := by
  refine zeP rfl rfl ?_
  refine zeGR rfl rfl (shM hb) rfl rfl ?_
  refine zeP rfl rfl ?_
  refine zeGI rfl rfl (shL hb (by omega)) rfl rfl ?_
  rw [(hc.w hl).1]
  refine zeKn (c := 31) rfl rfl rfl ?_
  refine zeON (c := (mv m (b + 5 + l) 0)) rfl rfl (zand31 _ (hc.w32 hl)) ?_
  refine zeAL (k := (mv m (b + 5 + l) 0)) rfl (bb1000 hb (by omega)) (shW hb) rfl (hc.w32 hl) ?_
  refine zeB1 rfl rfl (fun h1 => ?_) (fun h1 => ?_)
  · refine zeP rfl rfl ?_
    refine zeGI rfl rfl (shS hb (by omega)) rfl rfl ?_
    refine zeP rfl rfl ?_
    refine zeGR rfl rfl (shM hb) rfl rfl ?_
    refine zeKn (c := 1) rfl rfl rfl ?_
    refine zeAL (k := 1) rfl (bb1000 hb (by omega)) (shE hb) rfl (by omega) ?_
    refine zeB2 rfl rfl (fun h2 => ?_) (fun h2 => ?_)
    · refine zeP rfl rfl ?_
      refine zeP rfl rfl ?_
      refine zeP rfl rfl ?_
      refine zeGI rfl rfl (shL hb (by omega)) rfl rfl ?_
      rw [(hc.w hl).1]
      refine zeKn (c := 1) rfl rfl rfl ?_
      refine zeCV rfl rfl rfl rfl (shM hb) rfl (xc_reach (m := m) (b := b) (t := t) (w := (mv m (b + 5 + l) 0)) (v := (Int32.ofNat 1)) hb hc ht (hc.w32 hl)) (by omega) ?_
      dsimp only [Option.toList, List.cons_append, List.nil_append]
      refine zeP rfl rfl ?_
      refine zeP rfl rfl ?_
      refine zeKn (c := 0) rfl rfl rfl ?_
      refine zePI rfl rfl (shS hb (by omega)) rfl ?_
      refine zeP rfl rfl ?_
      refine zeP rfl rfl ?_
      refine zeGI rfl rfl (shL hb (by omega)) rfl rfl ?_
      refine zeKn (c := 1) rfl rfl rfl ?_
      refine zeP rfl rfl ?_
      refine zePI rfl rfl (shL hb (by omega)) rfl ?_
      refine zeP rfl rfl ?_
      refine zeGI rfl rfl (shL hb (by omega)) rfl rfl ?_
      refine zeKn (c := 1) rfl rfl rfl ?_
      refine zeP rfl rfl ?_
      refine zeGR rfl rfl (shM hb) rfl rfl ?_
      refine zeKn (c := 7) rfl rfl rfl ?_
      refine zeAL (k := 7) rfl (bb1000 hb (by omega)) (shE hb) rfl (by omega) ?_
      refine zeM rfl rfl rfl rfl rfl rfl rfl ?_
      refine zeRem rfl mx1 ?_
      refine zeB1 rfl rfl (fun h3 => ?_) (fun h3 => ?_)
      · refine zeP rfl rfl ?_
        refine zeGR rfl rfl (shM hb) rfl rfl ?_
        refine zeP rfl rfl ?_
        refine zeGI rfl rfl (shM hb) rfl rfl ?_
        refine zeP rfl rfl ?_
        refine zeKn (c := 3) rfl rfl rfl ?_
        refine zeP rfl rfl ?_
        refine zeCV rfl rfl rfl rfl (shLG hb) rfl (xc_logAdd (m := (zm2 ((zm2 ((x_reach m b t ((mv m (b + 5 + l) 0)) ((Int32.ofNat 1))).2) ((b + 10 + 7 * t)) 5 (Int32.ofNat 0))) ((b + 5 + l)) 2 ((((zm2 ((x_reach m b t ((mv m (b + 5 + l) 0)) ((Int32.ofNat 1))).2) ((b + 10 + 7 * t)) 5 (Int32.ofNat 0))) ((b + 5 + l)) 2) + (Int32.ofNat 1)))) (b := b) (t := (((zm2 ((zm2 ((x_reach m b t ((mv m (b + 5 + l) 0)) ((Int32.ofNat 1))).2) ((b + 10 + 7 * t)) 5 (Int32.ofNat 0))) ((b + 5 + l)) 2 ((((zm2 ((x_reach m b t ((mv m (b + 5 + l) 0)) ((Int32.ofNat 1))).2) ((b + 10 + 7 * t)) 5 (Int32.ofNat 0))) ((b + 5 + l)) 2) + (Int32.ofNat 1)))) b 7)) (u := (Int32.ofNat t)) (w := (Int32.ofNat 3)) (v := (Int32.ofNat l)) hb (zxn (by simp (disch := omega) only [gain_ne, zx_ne]) (hc.reach (t := t) (w := (mv m (b + 5 + l) 0)) (v := Int32.ofNat 1) ht).n) (zxb (by simp (disch := omega) only [gain_ne, zx_ne]) (hc.reach (t := t) (w := (mv m (b + 5 + l) 0)) (v := Int32.ofNat 1) ht).n60)) (by omega) ?_
        dsimp only [Option.toList, List.cons_append, List.nil_append]
        refine zeKn (c := 1) rfl rfl rfl ?_
        exact zeRe rfl rfl rfl rfl (by simp only [x_takePB, h1, h2, h3, cond_true, cond_false] <;> rfl) (by simp only [x_takePB, h1, h2, h3, cond_true, cond_false] <;> rfl)
      · refine zeP rfl rfl ?_
        refine zeKn (c := 1) rfl rfl rfl ?_
        refine zeCV rfl rfl rfl rfl (shL hb (by omega)) rfl (xc_gain (m := (zm2 ((zm2 ((x_reach m b t ((mv m (b + 5 + l) 0)) ((Int32.ofNat 1))).2) ((b + 10 + 7 * t)) 5 (Int32.ofNat 0))) ((b + 5 + l)) 2 ((((zm2 ((x_reach m b t ((mv m (b + 5 + l) 0)) ((Int32.ofNat 1))).2) ((b + 10 + 7 * t)) 5 (Int32.ofNat 0))) ((b + 5 + l)) 2) + (Int32.ofNat 1)))) (b := b) (l := l) (x := (Int32.ofNat 1)) hb hl) (by omega) ?_
        dsimp only [Option.toList, List.cons_append, List.nil_append]
        refine zeP rfl rfl ?_
        refine zeGR rfl rfl (shM hb) rfl rfl ?_
        refine zeP rfl rfl ?_
        refine zeGI rfl rfl (shM hb) rfl rfl ?_
        refine zeP rfl rfl ?_
        refine zeKn (c := 3) rfl rfl rfl ?_
        refine zeP rfl rfl ?_
        refine zeCV rfl rfl rfl rfl (shLG hb) rfl (xc_logAdd (m := (x_gain ((zm2 ((zm2 ((x_reach m b t ((mv m (b + 5 + l) 0)) ((Int32.ofNat 1))).2) ((b + 10 + 7 * t)) 5 (Int32.ofNat 0))) ((b + 5 + l)) 2 ((((zm2 ((x_reach m b t ((mv m (b + 5 + l) 0)) ((Int32.ofNat 1))).2) ((b + 10 + 7 * t)) 5 (Int32.ofNat 0))) ((b + 5 + l)) 2) + (Int32.ofNat 1)))) b l ((Int32.ofNat 1)))) (b := b) (t := (((x_gain ((zm2 ((zm2 ((x_reach m b t ((mv m (b + 5 + l) 0)) ((Int32.ofNat 1))).2) ((b + 10 + 7 * t)) 5 (Int32.ofNat 0))) ((b + 5 + l)) 2 ((((zm2 ((x_reach m b t ((mv m (b + 5 + l) 0)) ((Int32.ofNat 1))).2) ((b + 10 + 7 * t)) 5 (Int32.ofNat 0))) ((b + 5 + l)) 2) + (Int32.ofNat 1)))) b l ((Int32.ofNat 1)))) b 7)) (u := (Int32.ofNat t)) (w := (Int32.ofNat 3)) (v := (Int32.ofNat l)) hb (zxn (by simp (disch := omega) only [gain_ne, zx_ne]) (hc.reach (t := t) (w := (mv m (b + 5 + l) 0)) (v := Int32.ofNat 1) ht).n) (zxb (by simp (disch := omega) only [gain_ne, zx_ne]) (hc.reach (t := t) (w := (mv m (b + 5 + l) 0)) (v := Int32.ofNat 1) ht).n60)) (by omega) ?_
        dsimp only [Option.toList, List.cons_append, List.nil_append]
        refine zeKn (c := 1) rfl rfl rfl ?_
        exact zeRe rfl rfl rfl rfl (by simp only [x_takePB, h1, h2, h3, cond_true, cond_false] <;> rfl) (by simp only [x_takePB, h1, h2, h3, cond_true, cond_false] <;> rfl)
    · refine zeP rfl rfl ?_
      refine zeGI rfl rfl (shL hb (by omega)) rfl rfl ?_
      refine zeP rfl rfl ?_
      refine zeGR rfl rfl (shM hb) rfl rfl ?_
      refine zeKn (c := 4) rfl rfl rfl ?_
      refine zeAL (k := 4) rfl (bb1000 hb (by omega)) (shE hb) rfl (by omega) ?_
      refine zeB2 rfl rfl (fun h4 => ?_) (fun h4 => ?_)
      · refine zeP rfl rfl ?_
        refine zeP rfl rfl ?_
        refine zeP rfl rfl ?_
        refine zeGI rfl rfl (shL hb (by omega)) rfl rfl ?_
        rw [(hc.w hl).1]
        refine zeKn (c := 1) rfl rfl rfl ?_
        refine zeCV rfl rfl rfl rfl (shM hb) rfl (xc_reach (m := m) (b := b) (t := t) (w := (mv m (b + 5 + l) 0)) (v := (Int32.ofNat 1)) hb hc ht (hc.w32 hl)) (by omega) ?_
        dsimp only [Option.toList, List.cons_append, List.nil_append]
        refine zeP rfl rfl ?_
        refine zeP rfl rfl ?_
        refine zeKn (c := 0) rfl rfl rfl ?_
        refine zePI rfl rfl (shS hb (by omega)) rfl ?_
        refine zeP rfl rfl ?_
        refine zeP rfl rfl ?_
        refine zeGI rfl rfl (shL hb (by omega)) rfl rfl ?_
        refine zeKn (c := 1) rfl rfl rfl ?_
        refine zeP rfl rfl ?_
        refine zePI rfl rfl (shL hb (by omega)) rfl ?_
        refine zeP rfl rfl ?_
        refine zeGI rfl rfl (shL hb (by omega)) rfl rfl ?_
        refine zeKn (c := 1) rfl rfl rfl ?_
        refine zeP rfl rfl ?_
        refine zeGR rfl rfl (shM hb) rfl rfl ?_
        refine zeKn (c := 7) rfl rfl rfl ?_
        refine zeAL (k := 7) rfl (bb1000 hb (by omega)) (shE hb) rfl (by omega) ?_
        refine zeM rfl rfl rfl rfl rfl rfl rfl ?_
        refine zeRem rfl mx1 ?_
        refine zeB1 rfl rfl (fun h5 => ?_) (fun h5 => ?_)
        · refine zeP rfl rfl ?_
          refine zeGR rfl rfl (shM hb) rfl rfl ?_
          refine zeP rfl rfl ?_
          refine zeGI rfl rfl (shM hb) rfl rfl ?_
          refine zeP rfl rfl ?_
          refine zeKn (c := 3) rfl rfl rfl ?_
          refine zeP rfl rfl ?_
          refine zeCV rfl rfl rfl rfl (shLG hb) rfl (xc_logAdd (m := (zm2 ((zm2 ((x_reach m b t ((mv m (b + 5 + l) 0)) ((Int32.ofNat 1))).2) ((b + 10 + 7 * t)) 5 (Int32.ofNat 0))) ((b + 5 + l)) 2 ((((zm2 ((x_reach m b t ((mv m (b + 5 + l) 0)) ((Int32.ofNat 1))).2) ((b + 10 + 7 * t)) 5 (Int32.ofNat 0))) ((b + 5 + l)) 2) + (Int32.ofNat 1)))) (b := b) (t := (((zm2 ((zm2 ((x_reach m b t ((mv m (b + 5 + l) 0)) ((Int32.ofNat 1))).2) ((b + 10 + 7 * t)) 5 (Int32.ofNat 0))) ((b + 5 + l)) 2 ((((zm2 ((x_reach m b t ((mv m (b + 5 + l) 0)) ((Int32.ofNat 1))).2) ((b + 10 + 7 * t)) 5 (Int32.ofNat 0))) ((b + 5 + l)) 2) + (Int32.ofNat 1)))) b 7)) (u := (Int32.ofNat t)) (w := (Int32.ofNat 3)) (v := (Int32.ofNat l)) hb (zxn (by simp (disch := omega) only [gain_ne, zx_ne]) (hc.reach (t := t) (w := (mv m (b + 5 + l) 0)) (v := Int32.ofNat 1) ht).n) (zxb (by simp (disch := omega) only [gain_ne, zx_ne]) (hc.reach (t := t) (w := (mv m (b + 5 + l) 0)) (v := Int32.ofNat 1) ht).n60)) (by omega) ?_
          dsimp only [Option.toList, List.cons_append, List.nil_append]
          refine zeKn (c := 1) rfl rfl rfl ?_
          exact zeRe rfl rfl rfl rfl (by simp only [x_takePB, h1, h2, h4, h5, cond_true, cond_false] <;> rfl) (by simp only [x_takePB, h1, h2, h4, h5, cond_true, cond_false] <;> rfl)
        · refine zeP rfl rfl ?_
          refine zeKn (c := 1) rfl rfl rfl ?_
          refine zeCV rfl rfl rfl rfl (shL hb (by omega)) rfl (xc_gain (m := (zm2 ((zm2 ((x_reach m b t ((mv m (b + 5 + l) 0)) ((Int32.ofNat 1))).2) ((b + 10 + 7 * t)) 5 (Int32.ofNat 0))) ((b + 5 + l)) 2 ((((zm2 ((x_reach m b t ((mv m (b + 5 + l) 0)) ((Int32.ofNat 1))).2) ((b + 10 + 7 * t)) 5 (Int32.ofNat 0))) ((b + 5 + l)) 2) + (Int32.ofNat 1)))) (b := b) (l := l) (x := (Int32.ofNat 1)) hb hl) (by omega) ?_
          dsimp only [Option.toList, List.cons_append, List.nil_append]
          refine zeP rfl rfl ?_
          refine zeGR rfl rfl (shM hb) rfl rfl ?_
          refine zeP rfl rfl ?_
          refine zeGI rfl rfl (shM hb) rfl rfl ?_
          refine zeP rfl rfl ?_
          refine zeKn (c := 3) rfl rfl rfl ?_
          refine zeP rfl rfl ?_
          refine zeCV rfl rfl rfl rfl (shLG hb) rfl (xc_logAdd (m := (x_gain ((zm2 ((zm2 ((x_reach m b t ((mv m (b + 5 + l) 0)) ((Int32.ofNat 1))).2) ((b + 10 + 7 * t)) 5 (Int32.ofNat 0))) ((b + 5 + l)) 2 ((((zm2 ((x_reach m b t ((mv m (b + 5 + l) 0)) ((Int32.ofNat 1))).2) ((b + 10 + 7 * t)) 5 (Int32.ofNat 0))) ((b + 5 + l)) 2) + (Int32.ofNat 1)))) b l ((Int32.ofNat 1)))) (b := b) (t := (((x_gain ((zm2 ((zm2 ((x_reach m b t ((mv m (b + 5 + l) 0)) ((Int32.ofNat 1))).2) ((b + 10 + 7 * t)) 5 (Int32.ofNat 0))) ((b + 5 + l)) 2 ((((zm2 ((x_reach m b t ((mv m (b + 5 + l) 0)) ((Int32.ofNat 1))).2) ((b + 10 + 7 * t)) 5 (Int32.ofNat 0))) ((b + 5 + l)) 2) + (Int32.ofNat 1)))) b l ((Int32.ofNat 1)))) b 7)) (u := (Int32.ofNat t)) (w := (Int32.ofNat 3)) (v := (Int32.ofNat l)) hb (zxn (by simp (disch := omega) only [gain_ne, zx_ne]) (hc.reach (t := t) (w := (mv m (b + 5 + l) 0)) (v := Int32.ofNat 1) ht).n) (zxb (by simp (disch := omega) only [gain_ne, zx_ne]) (hc.reach (t := t) (w := (mv m (b + 5 + l) 0)) (v := Int32.ofNat 1) ht).n60)) (by omega) ?_
          dsimp only [Option.toList, List.cons_append, List.nil_append]
          refine zeKn (c := 1) rfl rfl rfl ?_
          exact zeRe rfl rfl rfl rfl (by simp only [x_takePB, h1, h2, h4, h5, cond_true, cond_false] <;> rfl) (by simp only [x_takePB, h1, h2, h4, h5, cond_true, cond_false] <;> rfl)
      · refine zeP rfl rfl ?_
        refine zeGR rfl rfl (shS hb (by omega)) rfl rfl ?_
        refine zeP rfl rfl ?_
        refine zeGI rfl rfl (shS hb (by omega)) rfl rfl ?_
        refine zeP rfl rfl ?_
        refine zeGI rfl rfl (shS hb (by omega)) rfl rfl ?_
        refine zeP rfl rfl ?_
        refine zeGI rfl rfl (shM hb) rfl rfl ?_
        refine zeCV rfl rfl rfl rfl (shG hb (by omega)) rfl (xc_begin (m := m) (b := b) (t := t) (x := (m ((b + 10 + 7 * t)) 3)) (y := (m ((b + 10 + 7 * t)) 4)) (z := (m b 7)) hb ht) (by omega) ?_
        dsimp only [Option.toList, List.cons_append, List.nil_append]
        refine zeP rfl rfl ?_
        refine zeGR rfl rfl (shS hb (by omega)) rfl rfl ?_
        refine zeP rfl rfl ?_
        refine zeCV rfl rfl rfl rfl (shG hb (by omega)) rfl (xc_leaveOut (m := (x_begin m b t ((m ((b + 10 + 7 * t)) 3)) ((m ((b + 10 + 7 * t)) 4)) ((m b 7)))) (b := b) (t := t) (l := (Int32.ofNat l)) hb ht (zxn begin_5 (hc.q ht)) (zxle begin_5 (hc.q4 ht))) (by omega) ?_
        dsimp only [Option.toList, List.cons_append, List.nil_append]
        refine zeP rfl rfl ?_
        refine zeGR rfl rfl (shS hb (by omega)) rfl rfl ?_
        refine zeP rfl rfl ?_
        refine zeP rfl rfl ?_
        refine zeGI rfl rfl (shL hb (by omega)) rfl rfl ?_
        refine zeCV rfl rfl rfl rfl (shM hb) rfl (xc_blockBit (m := (x_leaveOut ((x_begin m b t ((m ((b + 10 + 7 * t)) 3)) ((m ((b + 10 + 7 * t)) 4)) ((m b 7)))) b t ((Int32.ofNat l)))) (b := b) (w := (((x_leaveOut ((x_begin m b t ((m ((b + 10 + 7 * t)) 3)) ((m ((b + 10 + 7 * t)) 4)) ((m b 7)))) b t ((Int32.ofNat l)))) ((b + 5 + l)) 0)) hb) (by omega) ?_
        dsimp only [Option.toList, List.cons_append, List.nil_append]
        refine zePI rfl rfl (shG hb (by omega)) rfl ?_
        refine zeP rfl rfl ?_
        refine zeGR rfl rfl (shM hb) rfl rfl ?_
        refine zeP rfl rfl ?_
        refine zeGI rfl rfl (shM hb) rfl rfl ?_
        refine zeP rfl rfl ?_
        refine zeKn (c := 0) rfl rfl rfl ?_
        refine zeP rfl rfl ?_
        refine zeCV rfl rfl rfl rfl (shLG hb) rfl (xc_logAdd (m := (zm2 ((x_leaveOut ((x_begin m b t ((m ((b + 10 + 7 * t)) 3)) ((m ((b + 10 + 7 * t)) 4)) ((m b 7)))) b t ((Int32.ofNat l)))) ((b + 14 + 7 * t)) 6 (x_blockBit ((x_leaveOut ((x_begin m b t ((m ((b + 10 + 7 * t)) 3)) ((m ((b + 10 + 7 * t)) 4)) ((m b 7)))) b t ((Int32.ofNat l)))) b ((((x_leaveOut ((x_begin m b t ((m ((b + 10 + 7 * t)) 3)) ((m ((b + 10 + 7 * t)) 4)) ((m b 7)))) b t ((Int32.ofNat l)))) ((b + 5 + l)) 0))))) (b := b) (t := (((zm2 ((x_leaveOut ((x_begin m b t ((m ((b + 10 + 7 * t)) 3)) ((m ((b + 10 + 7 * t)) 4)) ((m b 7)))) b t ((Int32.ofNat l)))) ((b + 14 + 7 * t)) 6 (x_blockBit ((x_leaveOut ((x_begin m b t ((m ((b + 10 + 7 * t)) 3)) ((m ((b + 10 + 7 * t)) 4)) ((m b 7)))) b t ((Int32.ofNat l)))) b ((((x_leaveOut ((x_begin m b t ((m ((b + 10 + 7 * t)) 3)) ((m ((b + 10 + 7 * t)) 4)) ((m b 7)))) b t ((Int32.ofNat l)))) ((b + 5 + l)) 0))))) b 7)) (u := (Int32.ofNat t)) (w := (Int32.ofNat 0)) (v := (Int32.ofNat l)) hb (zxn (by simp (disch := omega) only [leaveOut_ne, begin_ne, zx_ne]) hc.n) (zxb (by simp (disch := omega) only [leaveOut_ne, begin_ne, zx_ne]) hc.n60)) (by omega) ?_
        dsimp only [Option.toList, List.cons_append, List.nil_append]
        refine zeKn (c := 1) rfl rfl rfl ?_
        exact zeRe rfl rfl rfl rfl (by simp only [x_takePB, h1, h2, h4, cond_true, cond_false] <;> rfl) (by simp only [x_takePB, h1, h2, h4, cond_true, cond_false] <;> rfl)
  · refine zeKn (c := 0) rfl rfl rfl ?_
    exact zeRe rfl rfl rfl rfl (by simp only [x_takePB, h1, cond_true, cond_false] <;> rfl) (by simp only [x_takePB, h1, cond_true, cond_false] <;> rfl)
noncomputable def x_takePlainly (m : Nat → Nat → Int32) (b : Nat) (t : Nat) (l : Nat) : Int32 × (Nat → Nat → Int32) := (x_takePB ((x_reach m b t ((mv m (b + 5 + l) 0)) ((-1))).2) b t l)
theorem xp_takePlainly {σ : Nat → Nat × (Nat → Int32)} {yy : (Nat → Nat → Int64) × Bool × Nat × Nat} {m : Nat → Nat → Int32} {b : Nat} {t : Nat} {l : Nat} {d : Nat} (hd : 4 ≤ d + 1) (hb : BB b) (hc : CG m b) (ht : t < 4) (hl : l < 4) : zEv σ (d + 1) 613 0 [some (.ref b), some (.int (Int32.ofNat t)), some (.ref (b + 10 + 7 * t)), some (.int (Int32.ofNat l)), none] [] (zS1, m, yy) (.inl (some (.int (x_takePlainly m b t l).1))) (zS1, ((x_takePlainly m b t l).2), yy) := by
  refine zeP rfl rfl ?_
  refine zeP rfl rfl ?_
  refine zeCV rfl rfl rfl rfl (shM hb) rfl (xc_lockAt (m := m) (b := b) (l := l) hb hl) (by omega) ?_
  dsimp only [Option.toList, List.cons_append, List.nil_append]
  refine zeP rfl rfl ?_
  refine zeP rfl rfl ?_
  refine zeP rfl rfl ?_
  refine zeP rfl rfl ?_
  refine zeGI rfl rfl (shL hb (by omega)) rfl rfl ?_
  rw [(hc.w hl).1]
  refine zeK (v := -1) rfl rfl rfl ?_
  refine zeCV rfl rfl rfl rfl (shM hb) rfl (xc_reach (m := m) (b := b) (t := t) (w := (mv m (b + 5 + l) 0)) (v := (-1)) hb hc ht (hc.w32 hl)) (by omega) ?_
  dsimp only [Option.toList, List.cons_append, List.nil_append]
  refine zeP rfl rfl ?_
  simp only [x_takePlainly, cond_true, cond_false]
  exact xp_takePB (b := b) (t := t) (l := l) (m := (x_reach m b t ((mv m (b + 5 + l) 0)) ((-1))).2) (by omega) hb (hc.reach ht) ht hl
theorem xc_takePlainly {σ : Nat → Nat × (Nat → Int32)} {yy : (Nat → Nat → Int64) × Bool × Nat × Nat} {m : Nat → Nat → Int32} {b : Nat} {t : Nat} {l : Nat} (hb : BB b) (hc : CG m b) (ht : t < 4) (hl : l < 4) : zF σ 4 613 [.ref b, .int (Int32.ofNat t), .ref (b + 10 + 7 * t), .int (Int32.ofNat l)] (zS1, m, yy) (.inl (some (.int (x_takePlainly m b t l).1))) (zS1, ((x_takePlainly m b t l).2), yy) := by
  intro d hd
  obtain ⟨d, rfl⟩ : ∃ k, d = k + 1 := ⟨d - 1, by omega⟩
  exact xp_takePlainly hd hb hc ht hl
noncomputable def x_takeGB (m : Nat → Nat → Int32) (b : Nat) (t : Nat) (l : Nat) (w : Nat) : Int32 × (Nat → Nat → Int32) := (bif zc1 .eq (x_leavesOut m b t ((Int32.ofNat l))) then (bif zc1 .eq (x_seenBy m b t w) then (bif zc2 .ge (m ((b + 14 + 7 * t)) 5) (m ((b + 3)) 2) then ((x_reach m b t w ((Int32.ofNat 1))).1, (x_reach m b t w ((Int32.ofNat 1))).2) else ((Int32.ofNat 1), (x_leaveOut m b t ((Int32.ofNat l))))) else ((x_fall m b t 4).1, (x_fall m b t 4).2)) else ((x_fall m b t 2).1, (x_fall m b t 2).2))
theorem xp_takeGB {σ : Nat → Nat × (Nat → Int32)} {yy : (Nat → Nat → Int64) × Bool × Nat × Nat} {m : Nat → Nat → Int32} {b : Nat} {t : Nat} {l : Nat} {w : Nat} {d : Nat} (hd : 4 ≤ d + 1) (hb : BB b) (hc : CG m b) (ht : t < 4) (hl : l < 4) (hw : w < 32) : zEv σ (d + 1) 614 24 [some (.ref b), some (.int (Int32.ofNat t)), some (.ref (b + 10 + 7 * t)), some (.int (Int32.ofNat l)), some (.int (Int32.ofNat w))] [] (zS1, m, yy) (.inl (some (.int (x_takeGB m b t l w).1))) (zS1, ((x_takeGB m b t l w).2), yy) := by
  refine zeP rfl rfl ?_
  refine zeGR rfl rfl (shS hb (by omega)) rfl rfl ?_
  refine zeP rfl rfl ?_
  refine zeCV rfl rfl rfl rfl (shG hb (by omega)) rfl (xc_leavesOut (m := m) (b := b) (t := t) (l := (Int32.ofNat l)) hb ht (hc.q ht) (hc.q4 ht)) (by omega) ?_
  dsimp only [Option.toList, List.cons_append, List.nil_append]
  refine zeB1 rfl rfl (fun h1 => ?_) (fun h1 => ?_)
  · refine zeP rfl rfl ?_
    refine zeP rfl rfl ?_
    refine zeP rfl rfl ?_
    refine zeCV rfl rfl rfl rfl (shM hb) rfl (xc_seenBy (m := m) (b := b) (t := t) (w := w) hb ht hw) (by omega) ?_
    dsimp only [Option.toList, List.cons_append, List.nil_append]
    refine zeB1 rfl rfl (fun h2 => ?_) (fun h2 => ?_)
    · refine zeP rfl rfl ?_
      refine zeGR rfl rfl (shS hb (by omega)) rfl rfl ?_
      refine zeGI rfl rfl (shG hb (by omega)) rfl rfl ?_
      refine zeP rfl rfl ?_
      refine zeGR rfl rfl (shM hb) rfl rfl ?_
      refine zeKn (c := 2) rfl rfl rfl ?_
      refine zeAL (k := 2) rfl (bb1000 hb (by omega)) (shE hb) rfl (by omega) ?_
      refine zeB2 rfl rfl (fun h3 => ?_) (fun h3 => ?_)
      · refine zeP rfl rfl ?_
        refine zeP rfl rfl ?_
        refine zeP rfl rfl ?_
        refine zeKn (c := 1) rfl rfl rfl ?_
        refine zeCV rfl rfl rfl rfl (shM hb) rfl (xc_reach (m := m) (b := b) (t := t) (w := w) (v := (Int32.ofNat 1)) hb hc ht hw) (by omega) ?_
        dsimp only [Option.toList, List.cons_append, List.nil_append]
        exact zeRe rfl rfl rfl rfl (by simp only [x_takeGB, h1, h2, h3, cond_true, cond_false] <;> rfl) (by simp only [x_takeGB, h1, h2, h3, cond_true, cond_false] <;> rfl)
      · refine zeP rfl rfl ?_
        refine zeGR rfl rfl (shS hb (by omega)) rfl rfl ?_
        refine zeP rfl rfl ?_
        refine zeCV rfl rfl rfl rfl (shG hb (by omega)) rfl (xc_leaveOut (m := m) (b := b) (t := t) (l := (Int32.ofNat l)) hb ht (hc.q ht) (hc.q4 ht)) (by omega) ?_
        dsimp only [Option.toList, List.cons_append, List.nil_append]
        refine zeKn (c := 1) rfl rfl rfl ?_
        exact zeRe rfl rfl rfl rfl (by simp only [x_takeGB, h1, h2, h3, cond_true, cond_false] <;> rfl) (by simp only [x_takeGB, h1, h2, h3, cond_true, cond_false] <;> rfl)
    · refine zeP rfl rfl ?_
      refine zeP rfl rfl ?_
      refine zeKn (c := 4) rfl rfl rfl ?_
      refine zeCV rfl rfl rfl rfl (shM hb) rfl (xc_fall (m := m) (b := b) (t := t) (y := 4) hb (by omega) (by omega) (hc.l (by omega)) (hc.l4 (by omega)) hc.n hc.n60) (by omega) ?_
      dsimp only [Option.toList, List.cons_append, List.nil_append]
      exact zeRe rfl rfl rfl rfl (by simp only [x_takeGB, h1, h2, cond_true, cond_false] <;> rfl) (by simp only [x_takeGB, h1, h2, cond_true, cond_false] <;> rfl)
  · refine zeP rfl rfl ?_
    refine zeP rfl rfl ?_
    refine zeKn (c := 2) rfl rfl rfl ?_
    refine zeCV rfl rfl rfl rfl (shM hb) rfl (xc_fall (m := m) (b := b) (t := t) (y := 2) hb (by omega) (by omega) (hc.l (by omega)) (hc.l4 (by omega)) hc.n hc.n60) (by omega) ?_
    dsimp only [Option.toList, List.cons_append, List.nil_append]
    exact zeRe rfl rfl rfl rfl (by simp only [x_takeGB, h1, cond_true, cond_false] <;> rfl) (by simp only [x_takeGB, h1, cond_true, cond_false] <;> rfl)
noncomputable def x_takeGuessing (m : Nat → Nat → Int32) (b : Nat) (t : Nat) (l : Nat) : Int32 × (Nat → Nat → Int32) := (bif zc2 .ne (x_reach m b t ((mv m (b + 5 + l) 0)) ((-1))).1 (-1) then (x_takeGB ((x_reach m b t ((mv m (b + 5 + l) 0)) ((-1))).2) b t l ((mv m (b + 5 + l) 0))) else ((-1), (x_reach m b t ((mv m (b + 5 + l) 0)) ((-1))).2))
theorem xp_takeGuessing {σ : Nat → Nat × (Nat → Int32)} {yy : (Nat → Nat → Int64) × Bool × Nat × Nat} {m : Nat → Nat → Int32} {b : Nat} {t : Nat} {l : Nat} {d : Nat} (hd : 4 ≤ d + 1) (hb : BB b) (hc : CG m b) (ht : t < 4) (hl : l < 4) : zEv σ (d + 1) 614 0 [some (.ref b), some (.int (Int32.ofNat t)), some (.ref (b + 10 + 7 * t)), some (.int (Int32.ofNat l)), none] [] (zS1, m, yy) (.inl (some (.int (x_takeGuessing m b t l).1))) (zS1, ((x_takeGuessing m b t l).2), yy) := by
  refine zeP rfl rfl ?_
  refine zeP rfl rfl ?_
  refine zeCV rfl rfl rfl rfl (shM hb) rfl (xc_lockAt (m := m) (b := b) (l := l) hb hl) (by omega) ?_
  dsimp only [Option.toList, List.cons_append, List.nil_append]
  refine zeGI rfl rfl (shL hb (by omega)) rfl rfl ?_
  rw [(hc.w hl).1]
  refine zeP rfl rfl ?_
  refine zeP rfl rfl ?_
  refine zeP rfl rfl ?_
  refine zeP rfl rfl ?_
  refine zeK (v := -1) rfl rfl rfl ?_
  refine zeCV rfl rfl rfl rfl (shM hb) rfl (xc_reach (m := m) (b := b) (t := t) (w := (mv m (b + 5 + l) 0)) (v := (-1)) hb hc ht (hc.w32 hl)) (by omega) ?_
  dsimp only [Option.toList, List.cons_append, List.nil_append]
  refine zeK (v := -1) rfl rfl rfl ?_
  refine zeB2 rfl rfl (fun h1 => ?_) (fun h1 => ?_)
  · simp only [x_takeGuessing, h1, cond_true, cond_false]
    exact xp_takeGB (b := b) (t := t) (l := l) (w := (mv m (b + 5 + l) 0)) (m := (x_reach m b t ((mv m (b + 5 + l) 0)) ((-1))).2) (by omega) hb (hc.reach ht) ht hl (hc.w32 hl)
  · refine zeK (v := -1) rfl rfl rfl ?_
    exact zeRe rfl rfl rfl rfl (by simp only [x_takeGuessing, h1, cond_true, cond_false] <;> rfl) (by simp only [x_takeGuessing, h1, cond_true, cond_false] <;> rfl)
theorem xc_takeGuessing {σ : Nat → Nat × (Nat → Int32)} {yy : (Nat → Nat → Int64) × Bool × Nat × Nat} {m : Nat → Nat → Int32} {b : Nat} {t : Nat} {l : Nat} (hb : BB b) (hc : CG m b) (ht : t < 4) (hl : l < 4) : zF σ 4 614 [.ref b, .int (Int32.ofNat t), .ref (b + 10 + 7 * t), .int (Int32.ofNat l)] (zS1, m, yy) (.inl (some (.int (x_takeGuessing m b t l).1))) (zS1, ((x_takeGuessing m b t l).2), yy) := by
  intro d hd
  obtain ⟨d, rfl⟩ : ∃ k, d = k + 1 := ⟨d - 1, by omega⟩
  exact xp_takeGuessing hd hb hc ht hl
noncomputable def xl_keep (b : Nat) (t : Nat) (l : Nat) : Nat → Nat → (Nat → Nat → Int32) → (Nat → Nat → Int32)
  | 0, k, m => (x_logAdd ((zm2 ((x_gain ((zm2 ((zm2 ((x_close m b t)) ((b + 10 + 7 * t)) 5 (Int32.ofNat 0))) ((b + 10 + 7 * t)) 6 ((((zm2 ((x_close m b t)) ((b + 10 + 7 * t)) 5 (Int32.ofNat 0))) ((b + 10 + 7 * t)) 6) + (Int32.ofNat 1)))) b l ((((zm2 ((zm2 ((x_close m b t)) ((b + 10 + 7 * t)) 5 (Int32.ofNat 0))) ((b + 10 + 7 * t)) 6 ((((zm2 ((x_close m b t)) ((b + 10 + 7 * t)) 5 (Int32.ofNat 0))) ((b + 10 + 7 * t)) 6) + (Int32.ofNat 1)))) ((b + 3)) 5)))) ((b + 5 + l)) 3 ((((x_gain ((zm2 ((zm2 ((x_close m b t)) ((b + 10 + 7 * t)) 5 (Int32.ofNat 0))) ((b + 10 + 7 * t)) 6 ((((zm2 ((x_close m b t)) ((b + 10 + 7 * t)) 5 (Int32.ofNat 0))) ((b + 10 + 7 * t)) 6) + (Int32.ofNat 1)))) b l ((((zm2 ((zm2 ((x_close m b t)) ((b + 10 + 7 * t)) 5 (Int32.ofNat 0))) ((b + 10 + 7 * t)) 6 ((((zm2 ((x_close m b t)) ((b + 10 + 7 * t)) 5 (Int32.ofNat 0))) ((b + 10 + 7 * t)) 6) + (Int32.ofNat 1)))) ((b + 3)) 5)))) ((b + 5 + l)) 3) + (Int32.ofNat 1)))) b ((((zm2 ((x_gain ((zm2 ((zm2 ((x_close m b t)) ((b + 10 + 7 * t)) 5 (Int32.ofNat 0))) ((b + 10 + 7 * t)) 6 ((((zm2 ((x_close m b t)) ((b + 10 + 7 * t)) 5 (Int32.ofNat 0))) ((b + 10 + 7 * t)) 6) + (Int32.ofNat 1)))) b l ((((zm2 ((zm2 ((x_close m b t)) ((b + 10 + 7 * t)) 5 (Int32.ofNat 0))) ((b + 10 + 7 * t)) 6 ((((zm2 ((x_close m b t)) ((b + 10 + 7 * t)) 5 (Int32.ofNat 0))) ((b + 10 + 7 * t)) 6) + (Int32.ofNat 1)))) ((b + 3)) 5)))) ((b + 5 + l)) 3 ((((x_gain ((zm2 ((zm2 ((x_close m b t)) ((b + 10 + 7 * t)) 5 (Int32.ofNat 0))) ((b + 10 + 7 * t)) 6 ((((zm2 ((x_close m b t)) ((b + 10 + 7 * t)) 5 (Int32.ofNat 0))) ((b + 10 + 7 * t)) 6) + (Int32.ofNat 1)))) b l ((((zm2 ((zm2 ((x_close m b t)) ((b + 10 + 7 * t)) 5 (Int32.ofNat 0))) ((b + 10 + 7 * t)) 6 ((((zm2 ((x_close m b t)) ((b + 10 + 7 * t)) 5 (Int32.ofNat 0))) ((b + 10 + 7 * t)) 6) + (Int32.ofNat 1)))) ((b + 3)) 5)))) ((b + 5 + l)) 3) + (Int32.ofNat 1)))) b 7)) ((Int32.ofNat t)) ((Int32.ofNat 1)) ((Int32.ofNat l)))
  | n + 1, k, m => (xl_keep b t l n ((k + 1)) ((zm2 m ((b + 1)) k (x_seenBy m b t k))))
theorem xw_keep {σ : Nat → Nat × (Nat → Int32)} {yy : (Nat → Nat → Int64) × Bool × Nat × Nat} {b : Nat} {t : Nat} {l : Nat} {d : Nat} (hd : 3 ≤ d + 1) (hb : BB b) (ht : t < 4) (hl : l < 4) : ∀ (n : Nat) (k : Nat) (m : Nat → Nat → Int32), k + n = 32 → m (b + 40) 2 = Int32.ofNat (mv m (b + 40) 2) → mv m (b + 40) 2 < 60 → zEv σ (d + 1) 616 3 [some (.ref b), some (.int (Int32.ofNat t)), some (.ref (b + 10 + 7 * t)), some (.int (Int32.ofNat l)), some (.int (Int32.ofNat k))] [] (zS1, m, yy) (.inl none) (zS1, ((xl_keep b t l n k m)), yy) := by
  intro n
  induction n with
  | zero =>
    intro k m hk hn hn60
    refine zeP rfl rfl ?_
    refine zeKn (c := 32) rfl rfl rfl ?_
    refine zeT2 rfl rfl (zcge (by omega) (by omega) (by omega)) ?_
    refine zeP rfl rfl ?_
    refine zeGR rfl rfl (shS hb (by omega)) rfl rfl ?_
    refine zeCV rfl rfl rfl rfl (shG hb (by omega)) rfl (xc_close (m := m) (b := b) (t := t) hb ht) (by omega) ?_
    dsimp only [Option.toList, List.cons_append, List.nil_append]
    refine zeP rfl rfl ?_
    refine zeKn (c := 0) rfl rfl rfl ?_
    refine zePI rfl rfl (shS hb (by omega)) rfl ?_
    refine zeP rfl rfl ?_
    refine zeP rfl rfl ?_
    refine zeGI rfl rfl (shS hb (by omega)) rfl rfl ?_
    refine zeKn (c := 1) rfl rfl rfl ?_
    refine zeP rfl rfl ?_
    refine zePI rfl rfl (shS hb (by omega)) rfl ?_
    refine zeP rfl rfl ?_
    refine zeP rfl rfl ?_
    refine zeCV rfl rfl rfl rfl (shM hb) rfl (xc_lockAt (m := (zm2 ((zm2 ((x_close m b t)) ((b + 10 + 7 * t)) 5 (Int32.ofNat 0))) ((b + 10 + 7 * t)) 6 ((((zm2 ((x_close m b t)) ((b + 10 + 7 * t)) 5 (Int32.ofNat 0))) ((b + 10 + 7 * t)) 6) + (Int32.ofNat 1)))) (b := b) (l := l) hb hl) (by omega) ?_
    dsimp only [Option.toList, List.cons_append, List.nil_append]
    refine zeP rfl rfl ?_
    refine zeGR rfl rfl (shM hb) rfl rfl ?_
    refine zeKn (c := 5) rfl rfl rfl ?_
    refine zeAL (k := 5) rfl (bb1000 hb (by omega)) (shE hb) rfl (by omega) ?_
    refine zeCV rfl rfl rfl rfl (shL hb (by omega)) rfl (xc_gain (m := (zm2 ((zm2 ((x_close m b t)) ((b + 10 + 7 * t)) 5 (Int32.ofNat 0))) ((b + 10 + 7 * t)) 6 ((((zm2 ((x_close m b t)) ((b + 10 + 7 * t)) 5 (Int32.ofNat 0))) ((b + 10 + 7 * t)) 6) + (Int32.ofNat 1)))) (b := b) (l := l) (x := (((zm2 ((zm2 ((x_close m b t)) ((b + 10 + 7 * t)) 5 (Int32.ofNat 0))) ((b + 10 + 7 * t)) 6 ((((zm2 ((x_close m b t)) ((b + 10 + 7 * t)) 5 (Int32.ofNat 0))) ((b + 10 + 7 * t)) 6) + (Int32.ofNat 1)))) ((b + 3)) 5)) hb hl) (by omega) ?_
    dsimp only [Option.toList, List.cons_append, List.nil_append]
    refine zeP rfl rfl ?_
    refine zeP rfl rfl ?_
    refine zeCV rfl rfl rfl rfl (shM hb) rfl (xc_lockAt (m := (x_gain ((zm2 ((zm2 ((x_close m b t)) ((b + 10 + 7 * t)) 5 (Int32.ofNat 0))) ((b + 10 + 7 * t)) 6 ((((zm2 ((x_close m b t)) ((b + 10 + 7 * t)) 5 (Int32.ofNat 0))) ((b + 10 + 7 * t)) 6) + (Int32.ofNat 1)))) b l ((((zm2 ((zm2 ((x_close m b t)) ((b + 10 + 7 * t)) 5 (Int32.ofNat 0))) ((b + 10 + 7 * t)) 6 ((((zm2 ((x_close m b t)) ((b + 10 + 7 * t)) 5 (Int32.ofNat 0))) ((b + 10 + 7 * t)) 6) + (Int32.ofNat 1)))) ((b + 3)) 5)))) (b := b) (l := l) hb hl) (by omega) ?_
    dsimp only [Option.toList, List.cons_append, List.nil_append]
    refine zeP rfl rfl ?_
    refine zeGI rfl rfl (shL hb (by omega)) rfl rfl ?_
    refine zeKn (c := 1) rfl rfl rfl ?_
    refine zeP rfl rfl ?_
    refine zePI rfl rfl (shL hb (by omega)) rfl ?_
    refine zeP rfl rfl ?_
    refine zeGR rfl rfl (shM hb) rfl rfl ?_
    refine zeP rfl rfl ?_
    refine zeGI rfl rfl (shM hb) rfl rfl ?_
    refine zeP rfl rfl ?_
    refine zeKn (c := 1) rfl rfl rfl ?_
    refine zeP rfl rfl ?_
    refine zeCV rfl rfl rfl rfl (shLG hb) rfl (xc_logAdd (m := (zm2 ((x_gain ((zm2 ((zm2 ((x_close m b t)) ((b + 10 + 7 * t)) 5 (Int32.ofNat 0))) ((b + 10 + 7 * t)) 6 ((((zm2 ((x_close m b t)) ((b + 10 + 7 * t)) 5 (Int32.ofNat 0))) ((b + 10 + 7 * t)) 6) + (Int32.ofNat 1)))) b l ((((zm2 ((zm2 ((x_close m b t)) ((b + 10 + 7 * t)) 5 (Int32.ofNat 0))) ((b + 10 + 7 * t)) 6 ((((zm2 ((x_close m b t)) ((b + 10 + 7 * t)) 5 (Int32.ofNat 0))) ((b + 10 + 7 * t)) 6) + (Int32.ofNat 1)))) ((b + 3)) 5)))) ((b + 5 + l)) 3 ((((x_gain ((zm2 ((zm2 ((x_close m b t)) ((b + 10 + 7 * t)) 5 (Int32.ofNat 0))) ((b + 10 + 7 * t)) 6 ((((zm2 ((x_close m b t)) ((b + 10 + 7 * t)) 5 (Int32.ofNat 0))) ((b + 10 + 7 * t)) 6) + (Int32.ofNat 1)))) b l ((((zm2 ((zm2 ((x_close m b t)) ((b + 10 + 7 * t)) 5 (Int32.ofNat 0))) ((b + 10 + 7 * t)) 6 ((((zm2 ((x_close m b t)) ((b + 10 + 7 * t)) 5 (Int32.ofNat 0))) ((b + 10 + 7 * t)) 6) + (Int32.ofNat 1)))) ((b + 3)) 5)))) ((b + 5 + l)) 3) + (Int32.ofNat 1)))) (b := b) (t := (((zm2 ((x_gain ((zm2 ((zm2 ((x_close m b t)) ((b + 10 + 7 * t)) 5 (Int32.ofNat 0))) ((b + 10 + 7 * t)) 6 ((((zm2 ((x_close m b t)) ((b + 10 + 7 * t)) 5 (Int32.ofNat 0))) ((b + 10 + 7 * t)) 6) + (Int32.ofNat 1)))) b l ((((zm2 ((zm2 ((x_close m b t)) ((b + 10 + 7 * t)) 5 (Int32.ofNat 0))) ((b + 10 + 7 * t)) 6 ((((zm2 ((x_close m b t)) ((b + 10 + 7 * t)) 5 (Int32.ofNat 0))) ((b + 10 + 7 * t)) 6) + (Int32.ofNat 1)))) ((b + 3)) 5)))) ((b + 5 + l)) 3 ((((x_gain ((zm2 ((zm2 ((x_close m b t)) ((b + 10 + 7 * t)) 5 (Int32.ofNat 0))) ((b + 10 + 7 * t)) 6 ((((zm2 ((x_close m b t)) ((b + 10 + 7 * t)) 5 (Int32.ofNat 0))) ((b + 10 + 7 * t)) 6) + (Int32.ofNat 1)))) b l ((((zm2 ((zm2 ((x_close m b t)) ((b + 10 + 7 * t)) 5 (Int32.ofNat 0))) ((b + 10 + 7 * t)) 6 ((((zm2 ((x_close m b t)) ((b + 10 + 7 * t)) 5 (Int32.ofNat 0))) ((b + 10 + 7 * t)) 6) + (Int32.ofNat 1)))) ((b + 3)) 5)))) ((b + 5 + l)) 3) + (Int32.ofNat 1)))) b 7)) (u := (Int32.ofNat t)) (w := (Int32.ofNat 1)) (v := (Int32.ofNat l)) hb (zxn (by simp (disch := omega) only [gain_ne, close_ne, zx_ne]) hn) (zxb (by simp (disch := omega) only [gain_ne, close_ne, zx_ne]) hn60)) (by omega) ?_
    dsimp only [Option.toList, List.cons_append, List.nil_append]
    exact zeRe rfl rfl rfl rfl (by rfl) (by rfl)
  | succ n ih =>
    intro k m hk hn hn60
    refine zeP rfl rfl ?_
    refine zeKn (c := 32) rfl rfl rfl ?_
    refine zeF2 rfl rfl (zcge_f (by omega) (by omega) (by omega)) ?_
    refine zeP rfl rfl ?_
    refine zeGR rfl rfl (shM hb) rfl rfl ?_
    refine zeP rfl rfl ?_
    refine zeP rfl rfl ?_
    refine zeP rfl rfl ?_
    refine zeP rfl rfl ?_
    refine zeCV rfl rfl rfl rfl (shM hb) rfl (xc_seenBy (m := m) (b := b) (t := t) (w := k) hb ht (by omega)) (by omega) ?_
    dsimp only [Option.toList, List.cons_append, List.nil_append]
    refine zeAS (k := k) rfl (shW hb) rfl (by omega) ?_
    refine zeInc rfl rfl ?_
    refine zeP rfl rfl ?_
    simp only [xl_keep, cond_true, cond_false]
    exact ih ((k + 1))  ((zm2 m ((b + 1)) k (x_seenBy m b t k))) (by omega) (zxn (zx_ne _ _ _ (by omega)) hn) (zxb (zx_ne _ _ _ (by omega)) hn60)
noncomputable def x_keep (m : Nat → Nat → Int32) (b : Nat) (t : Nat) (l : Nat) : (Nat → Nat → Int32) := (xl_keep b t l 32 0 m)
theorem xp_keep {σ : Nat → Nat × (Nat → Int32)} {yy : (Nat → Nat → Int64) × Bool × Nat × Nat} {m : Nat → Nat → Int32} {b : Nat} {t : Nat} {l : Nat} {d : Nat} (hd : 3 ≤ d + 1) (hb : BB b) (ht : t < 4) (hl : l < 4) (hn : m (b + 40) 2 = Int32.ofNat (mv m (b + 40) 2)) (hn60 : mv m (b + 40) 2 < 60) : zEv σ (d + 1) 616 0 [some (.ref b), some (.int (Int32.ofNat t)), some (.ref (b + 10 + 7 * t)), some (.int (Int32.ofNat l)), none] [] (zS1, m, yy) (.inl none) (zS1, ((x_keep m b t l)), yy) := by
  refine zeKn (c := 0) rfl rfl rfl ?_
  refine zeP rfl rfl ?_
  simp only [x_keep, cond_true, cond_false]
  exact xw_keep (b := b) (t := t) (l := l) (by omega) hb ht hl 32 (0)  m (by omega) hn hn60
theorem xc_keep {σ : Nat → Nat × (Nat → Int32)} {yy : (Nat → Nat → Int64) × Bool × Nat × Nat} {m : Nat → Nat → Int32} {b : Nat} {t : Nat} {l : Nat} (hb : BB b) (ht : t < 4) (hl : l < 4) (hn : m (b + 40) 2 = Int32.ofNat (mv m (b + 40) 2)) (hn60 : mv m (b + 40) 2 < 60) : zF σ 3 616 [.ref b, .int (Int32.ofNat t), .ref (b + 10 + 7 * t), .int (Int32.ofNat l)] (zS1, m, yy) (.inl none) (zS1, ((x_keep m b t l)), yy) := by
  intro d hd
  obtain ⟨d, rfl⟩ : ∃ k, d = k + 1 := ⟨d - 1, by omega⟩
  exact xp_keep hd hb ht hl hn hn60
end
