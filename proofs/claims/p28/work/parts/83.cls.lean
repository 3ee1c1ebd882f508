theorem c1le {q : Nat} (hq : q < 2147483648) (h : zc1 .le (Int32.ofNat q) = false) : 1 ≤ q := by
  have h1 := of_decide_eq_false h
  rw [Int32.le_iff_toInt_le, zoN hq, Int32.toInt_zero] at h1
  omega
theorem mx1 {x : Int32} : ¬ (if Int32.ofNat 1 < x then x else Int32.ofNat 1) = 0 := by
  split
  · rename_i h
    rw [Int32.lt_iff_toInt_lt] at h
    intro e
    rw [e] at h
    exact absurd h (by decide)
  · decide
theorem zxn {m m' : Nat → Nat → Int32} {a k : Nat} (e : m' a k = m a k) (h : m a k = Int32.ofNat (mv m a k)) : m' a k = Int32.ofNat (mv m' a k) := by
  unfold mv at *
  rw [e]; exact h
theorem zxb {m m' : Nat → Nat → Int32} {a k c : Nat} (e : m' a k = m a k) (h : mv m a k < c) : mv m' a k < c := by
  unfold mv at *
  rw [e]; exact h
theorem zand31 : ∀ w, w < 32 → Int32.ofNat w &&& Int32.ofNat 31 = Int32.ofNat w := by decide +kernel
theorem close_ne {m : Nat → Nat → Int32} {b t i l : Nat} (h : i ≠ b + 14 + 7 * t) : x_close m b t i l = m i l := by
  unfold x_close
  rw [zx_ne _ _ _ h, zx_ne _ _ _ h, zx_ne _ _ _ h, zx_ne _ _ _ h, zx_ne _ _ _ h]
theorem lose_ne {m : Nat → Nat → Int32} {b t i l : Nat} {x : Int32} (h : i ≠ b + 5 + t) : x_lose m b t x i l = m i l := by
  unfold x_lose
  exact cndi (fun q : Nat → Nat → Int32 => q i l = m i l) (zx_ne _ _ _ h) (zx_ne _ _ _ h)
theorem gain_ne {m : Nat → Nat → Int32} {b t i l : Nat} {x : Int32} (h : i ≠ b + 5 + t) : x_gain m b t x i l = m i l := by
  unfold x_gain
  exact cndi (fun q : Nat → Nat → Int32 => q i l = m i l) (zx_ne _ _ _ h) (zx_ne _ _ _ h)
def x_leaveOut (m : Nat → Nat → Int32) (b : Nat) (t : Nat) (l : Int32) : (Nat → Nat → Int32) := (bif zc2 .ge (Int32.ofNat (mv m (b + 14 + 7 * t) 5)) (Int32.ofNat 4) then m else (zm2 ((zm2 m ((b + 15 + 7 * t)) ((mv m (b + 14 + 7 * t) 5)) l)) ((b + 14 + 7 * t)) 5 ((((zm2 m ((b + 15 + 7 * t)) ((mv m (b + 14 + 7 * t) 5)) l)) ((b + 14 + 7 * t)) 5) + (Int32.ofNat 1))))
theorem xp_leaveOut {σ : Nat → Nat × (Nat → Int32)} {yy : (Nat → Nat → Int64) × Bool × Nat × Nat} {m : Nat → Nat → Int32} {b : Nat} {t : Nat} {l : Int32} {d : Nat} (hd : 1 ≤ d + 1) (hb : BB b) (ht : t < 4) (hq : m (b + 14 + 7 * t) 5 = Int32.ofNat (mv m (b + 14 + 7 * t) 5)) (hq4 : mv m (b + 14 + 7 * t) 5 ≤ 4) : zEv σ (d + 1) 5 0 [some (.ref (b + 14 + 7 * t)), some (.int l)] [] (zS1, m, yy) (.inl none) (zS1, ((x_leaveOut m b t l)), yy) := by
  refine zeP rfl rfl ?_
  refine zeGI rfl rfl (shG hb (by omega)) rfl rfl ?_
  rw [hq]
  refine zeKn (c := 4) rfl rfl rfl ?_
  refine zeB2 rfl rfl (fun h1 => ?_) (fun h1 => ?_)
  · exact zeRe rfl rfl rfl rfl (by simp only [x_leaveOut, h1, cond_true, cond_false] <;> rfl) (by simp only [x_leaveOut, h1, cond_true, cond_false] <;> rfl)
  · refine zeP rfl rfl ?_
    refine zeGR rfl rfl (shG hb (by omega)) rfl rfl ?_
    refine zeP rfl rfl ?_
    refine zeGI rfl rfl (shG hb (by omega)) rfl rfl ?_
    rw [hq]
    refine zeP rfl rfl ?_
    refine zeAS (k := (mv m (b + 14 + 7 * t) 5)) rfl (shO hb (by omega)) rfl (zge_lt (by omega) (by omega) (by assumption)) ?_
    refine zeP rfl rfl ?_
    refine zeP rfl rfl ?_
    refine zeGI rfl rfl (shG hb (by omega)) rfl rfl ?_
    refine zeKn (c := 1) rfl rfl rfl ?_
    refine zeP rfl rfl ?_
    refine zePI rfl rfl (shG hb (by omega)) rfl ?_
    exact zeRe rfl rfl rfl rfl (by simp only [x_leaveOut, h1, cond_true, cond_false] <;> rfl) (by simp only [x_leaveOut, h1, cond_true, cond_false] <;> rfl)
theorem xc_leaveOut {σ : Nat → Nat × (Nat → Int32)} {yy : (Nat → Nat → Int64) × Bool × Nat × Nat} {m : Nat → Nat → Int32} {b : Nat} {t : Nat} {l : Int32} (hb : BB b) (ht : t < 4) (hq : m (b + 14 + 7 * t) 5 = Int32.ofNat (mv m (b + 14 + 7 * t) 5)) (hq4 : mv m (b + 14 + 7 * t) 5 ≤ 4) : zF σ 1 5 [.ref (b + 14 + 7 * t), .int l] (zS1, m, yy) (.inl none) (zS1, ((x_leaveOut m b t l)), yy) := by
  intro d hd
  obtain ⟨d, rfl⟩ : ∃ k, d = k + 1 := ⟨d - 1, by omega⟩
  exact xp_leaveOut hd hb ht hq hq4
def x_latest (m : Nat → Nat → Int32) (b : Nat) (t : Nat) : Int32 := (bif zc1 .le (Int32.ofNat (mv m (b + 14 + 7 * t) 5)) then (-1) else (bif zc2 .gt (Int32.ofNat (mv m (b + 14 + 7 * t) 5)) (Int32.ofNat 4) then (-1) else (m ((b + 15 + 7 * t)) (((mv m (b + 14 + 7 * t) 5) - 1)))))
theorem xp_latest {σ : Nat → Nat × (Nat → Int32)} {yy : (Nat → Nat → Int64) × Bool × Nat × Nat} {m : Nat → Nat → Int32} {b : Nat} {t : Nat} {d : Nat} (hd : 1 ≤ d + 1) (hb : BB b) (ht : t < 4) (hq : m (b + 14 + 7 * t) 5 = Int32.ofNat (mv m (b + 14 + 7 * t) 5)) (hq4 : mv m (b + 14 + 7 * t) 5 ≤ 4) : zEv σ (d + 1) 6 0 [some (.ref (b + 14 + 7 * t))] [] (zS1, m, yy) (.inl (some (.int (x_latest m b t)))) (zS1, m, yy) := by
  refine zeP rfl rfl ?_
  refine zeGI rfl rfl (shG hb (by omega)) rfl rfl ?_
  rw [hq]
  refine zeB1 rfl rfl (fun h1 => ?_) (fun h1 => ?_)
  · refine zeK (v := -1) rfl rfl rfl ?_
    exact zeRe rfl rfl rfl rfl (by simp only [x_latest, h1, cond_true, cond_false] <;> rfl) (by simp only [x_latest, h1, cond_true, cond_false] <;> rfl)
  · refine zeP rfl rfl ?_
    refine zeGI rfl rfl (shG hb (by omega)) rfl rfl ?_
    rw [hq]
    refine zeKn (c := 4) rfl rfl rfl ?_
    refine zeB2 rfl rfl (fun h2 => ?_) (fun h2 => ?_)
    · refine zeK (v := -1) rfl rfl rfl ?_
      exact zeRe rfl rfl rfl rfl (by simp only [x_latest, h1, h2, cond_true, cond_false] <;> rfl) (by simp only [x_latest, h1, h2, cond_true, cond_false] <;> rfl)
    · refine zeP rfl rfl ?_
      refine zeGR rfl rfl (shG hb (by omega)) rfl rfl ?_
      refine zeP rfl rfl ?_
      refine zeGI rfl rfl (shG hb (by omega)) rfl rfl ?_
      rw [hq]
      refine zeKn (c := 1) rfl rfl rfl ?_
      refine zeSub rfl (c1le (by omega) (by assumption)) ?_
      refine zeAL (k := ((mv m (b + 14 + 7 * t) 5) - 1)) rfl (bbl hb (by omega) (by omega)) (shO hb (by omega)) rfl (by have := c1le (q := mv m (b + 14 + 7 * t) 5) (by omega) (by assumption); omega) ?_
      refine zeP rfl rfl ?_
      exact zeRe rfl rfl rfl rfl (by simp only [x_latest, h1, h2, cond_true, cond_false] <;> rfl) (by simp only [x_latest, h1, h2, cond_true, cond_false] <;> rfl)
theorem xc_latest {σ : Nat → Nat × (Nat → Int32)} {yy : (Nat → Nat → Int64) × Bool × Nat × Nat} {m : Nat → Nat → Int32} {b : Nat} {t : Nat} (hb : BB b) (ht : t < 4) (hq : m (b + 14 + 7 * t) 5 = Int32.ofNat (mv m (b + 14 + 7 * t) 5)) (hq4 : mv m (b + 14 + 7 * t) 5 ≤ 4) : zF σ 1 6 [.ref (b + 14 + 7 * t)] (zS1, m, yy) (.inl (some (.int (x_latest m b t)))) (zS1, m, yy) := by
  intro d hd
  obtain ⟨d, rfl⟩ : ∃ k, d = k + 1 := ⟨d - 1, by omega⟩
  exact xp_latest hd hb ht hq hq4
def xl_leavesOut (m : Nat → Nat → Int32) (b : Nat) (t : Nat) (l : Int32) : Nat → Nat → Int32
  | 0, k => (Int32.ofNat 0)
  | n + 1, k => (bif zc2 .ne (m ((b + 15 + 7 * t)) k) l then (xl_leavesOut m b t l n ((k + 1))) else (Int32.ofNat 1))
theorem xw_leavesOut {σ : Nat → Nat × (Nat → Int32)} {yy : (Nat → Nat → Int64) × Bool × Nat × Nat} {m : Nat → Nat → Int32} {b : Nat} {t : Nat} {l : Int32} {d : Nat} (hd : 1 ≤ d + 1) (hb : BB b) (ht : t < 4) (hq : m (b + 14 + 7 * t) 5 = Int32.ofNat (mv m (b + 14 + 7 * t) 5)) (hq4 : mv m (b + 14 + 7 * t) 5 ≤ 4) : ∀ (n : Nat) (k : Nat), k + n = mv m (b + 14 + 7 * t) 5 → zEv σ (d + 1) 4 2 [some (.ref (b + 14 + 7 * t)), some (.int l), some (.int (Int32.ofNat k))] [] (zS1, m, yy) (.inl (some (.int (xl_leavesOut m b t l n k)))) (zS1, m, yy) := by
  intro n
  induction n with
  | zero =>
    intro k hk
    refine zeP rfl rfl ?_
    refine zeP rfl rfl ?_
    refine zeGI rfl rfl (shG hb (by omega)) rfl rfl ?_
    rw [hq]
    refine zeT2 rfl rfl (zcge (by omega) (by omega) (by omega)) ?_
    refine zeKn (c := 0) rfl rfl rfl ?_
    exact zeRe rfl rfl rfl rfl (by rfl) (by rfl)
  | succ n ih =>
    intro k hk
    refine zeP rfl rfl ?_
    refine zeP rfl rfl ?_
    refine zeGI rfl rfl (shG hb (by omega)) rfl rfl ?_
    rw [hq]
    refine zeF2 rfl rfl (zcge_f (by omega) (by omega) (by omega)) ?_
    refine zeP rfl rfl ?_
    refine zeKn (c := 4) rfl rfl rfl ?_
    refine zeF2 rfl rfl (zcge_f (by omega) (by omega) (by omega)) ?_
    refine zeP rfl rfl ?_
    refine zeGR rfl rfl (shG hb (by omega)) rfl rfl ?_
    refine zeP rfl rfl ?_
    refine zeAL (k := k) rfl (bbl hb (by omega) (by omega)) (shO hb (by omega)) rfl (by omega) ?_
    refine zeP rfl rfl ?_
    refine zeB2 rfl rfl (fun h1 => ?_) (fun h1 => ?_)
    · refine zeInc rfl rfl ?_
      refine zeP rfl rfl ?_
      simp only [xl_leavesOut, h1, cond_true, cond_false]
      exact ih ((k + 1))   (by omega) 
    · refine zeKn (c := 1) rfl rfl rfl ?_
      exact zeRe rfl rfl rfl rfl (by simp only [xl_leavesOut, h1, cond_true, cond_false] <;> rfl) (by simp only [xl_leavesOut, h1, cond_true, cond_false] <;> rfl)
def x_leavesOut (m : Nat → Nat → Int32) (b : Nat) (t : Nat) (l : Int32) : Int32 := (xl_leavesOut m b t l ((mv m (b + 14 + 7 * t) 5)) 0)
theorem xp_leavesOut {σ : Nat → Nat × (Nat → Int32)} {yy : (Nat → Nat → Int64) × Bool × Nat × Nat} {m : Nat → Nat → Int32} {b : Nat} {t : Nat} {l : Int32} {d : Nat} (hd : 1 ≤ d + 1) (hb : BB b) (ht : t < 4) (hq : m (b + 14 + 7 * t) 5 = Int32.ofNat (mv m (b + 14 + 7 * t) 5)) (hq4 : mv m (b + 14 + 7 * t) 5 ≤ 4) : zEv σ (d + 1) 4 0 [some (.ref (b + 14 + 7 * t)), some (.int l), none] [] (zS1, m, yy) (.inl (some (.int (x_leavesOut m b t l)))) (zS1, m, yy) := by
  refine zeKn (c := 0) rfl rfl rfl ?_
  refine zeP rfl rfl ?_
  simp only [x_leavesOut, cond_true, cond_false]
  exact xw_leavesOut (b := b) (t := t) (l := l) (m := m) (by omega) (by first | assumption | omega) (by first | assumption | omega) (by first | assumption | omega) (by first | assumption | omega) ((mv m (b + 14 + 7 * t) 5)) (0)   (by omega) 
theorem xc_leavesOut {σ : Nat → Nat × (Nat → Int32)} {yy : (Nat → Nat → Int64) × Bool × Nat × Nat} {m : Nat → Nat → Int32} {b : Nat} {t : Nat} {l : Int32} (hb : BB b) (ht : t < 4) (hq : m (b + 14 + 7 * t) 5 = Int32.ofNat (mv m (b + 14 + 7 * t) 5)) (hq4 : mv m (b + 14 + 7 * t) 5 ≤ 4) : zF σ 1 4 [.ref (b + 14 + 7 * t), .int l] (zS1, m, yy) (.inl (some (.int (x_leavesOut m b t l)))) (zS1, m, yy) := by
  intro d hd
  obtain ⟨d, rfl⟩ : ∃ k, d = k + 1 := ⟨d - 1, by omega⟩
  exact xp_leavesOut hd hb ht hq hq4
def x_blockBit (m : Nat → Nat → Int32) (b : Nat) (w : Int32) : Int32 := ((Int32.ofNat 1) <<< ((w / (if (Int32.ofNat 1) < (m ((b + 3)) 0) then (m ((b + 3)) 0) else (Int32.ofNat 1))) &&& 31))
theorem xp_blockBit {σ : Nat → Nat × (Nat → Int32)} {yy : (Nat → Nat → Int64) × Bool × Nat × Nat} {m : Nat → Nat → Int32} {b : Nat} {w : Int32} {d : Nat} (hd : 1 ≤ d + 1) (hb : BB b) : zEv σ (d + 1) 604 0 [some (.ref b), some (.int w), none] [] (zS1, m, yy) (.inl (some (.int (x_blockBit m b w)))) (zS1, m, yy) := by
  refine zeKn (c := 1) rfl rfl rfl ?_
  refine zeP rfl rfl ?_
  refine zeGR rfl rfl (shM hb) rfl rfl ?_
  refine zeKn (c := 0) rfl rfl rfl ?_
  refine zeAL (k := 0) rfl (bb1000 hb (by omega)) (shE hb) rfl (by omega) ?_
  refine zeM rfl rfl rfl rfl rfl rfl rfl ?_
  refine zeP rfl rfl ?_
  refine zeKn (c := 1) rfl rfl rfl ?_
  refine zeP rfl rfl ?_
  refine zeP rfl rfl ?_
  refine zeDiv rfl mx1 ?_
  refine zeP rfl rfl ?_
  exact zeRe rfl rfl rfl rfl (by rfl) (by rfl)
theorem xc_blockBit {σ : Nat → Nat × (Nat → Int32)} {yy : (Nat → Nat → Int64) × Bool × Nat × Nat} {m : Nat → Nat → Int32} {b : Nat} {w : Int32} (hb : BB b) : zF σ 1 604 [.ref b, .int w] (zS1, m, yy) (.inl (some (.int (x_blockBit m b w)))) (zS1, m, yy) := by
  intro d hd
  obtain ⟨d, rfl⟩ : ∃ k, d = k + 1 := ⟨d - 1, by omega⟩
  exact xp_blockBit hd hb
def x_seenBy (m : Nat → Nat → Int32) (b : Nat) (t : Nat) (w : Nat) : Int32 := (bif zc1 .eq (m ((b + 14 + 7 * t)) 0) then (m ((b + 1)) w) else (bif zc1 .eq (x_hasValue m b t ((Int32.ofNat w))) then (m ((b + 1)) w) else (m ((b + 16 + 7 * t)) w)))
theorem xp_seenBy {σ : Nat → Nat × (Nat → Int32)} {yy : (Nat → Nat → Int64) × Bool × Nat × Nat} {m : Nat → Nat → Int32} {b : Nat} {t : Nat} {w : Nat} {d : Nat} (hd : 2 ≤ d + 1) (hb : BB b) (ht : t < 4) (hw : w < 32) : zEv σ (d + 1) 605 0 [some (.ref b), some (.ref (b + 10 + 7 * t)), some (.int (Int32.ofNat w)), none] [] (zS1, m, yy) (.inl (some (.int (x_seenBy m b t w)))) (zS1, m, yy) := by
  refine zeP rfl rfl ?_
  refine zeKn (c := 31) rfl rfl rfl ?_
  refine zeON (c := w) rfl rfl (zand31 _ hw) ?_
  refine zeP rfl rfl ?_
  refine zeP rfl rfl ?_
  refine zeGR rfl rfl (shS hb (by omega)) rfl rfl ?_
  refine zeGI rfl rfl (shG hb (by omega)) rfl rfl ?_
  refine zeB1 rfl rfl (fun h1 => ?_) (fun h1 => ?_)
  · refine zeP rfl rfl ?_
    refine zeGR rfl rfl (shM hb) rfl rfl ?_
    refine zeP rfl rfl ?_
    refine zeAL (k := w) rfl (bb1000 hb (by omega)) (shW hb) rfl (by omega) ?_
    exact zeRe rfl rfl rfl rfl (by simp only [x_seenBy, h1, cond_true, cond_false] <;> rfl) (by simp only [x_seenBy, h1, cond_true, cond_false] <;> rfl)
  · refine zeP rfl rfl ?_
    refine zeGR rfl rfl (shS hb (by omega)) rfl rfl ?_
    refine zeP rfl rfl ?_
    refine zeCV rfl rfl rfl rfl (shG hb (by omega)) rfl (xc_hasValue (m := m) (b := b) (t := t) (w := (Int32.ofNat w)) (by first | assumption | omega) (by first | assumption | omega)) (by omega) ?_
    dsimp only [Option.toList, List.cons_append, List.nil_append]
    refine zeB1 rfl rfl (fun h2 => ?_) (fun h2 => ?_)
    · refine zeP rfl rfl ?_
      refine zeGR rfl rfl (shM hb) rfl rfl ?_
      refine zeP rfl rfl ?_
      refine zeAL (k := w) rfl (bb1000 hb (by omega)) (shW hb) rfl (by omega) ?_
      exact zeRe rfl rfl rfl rfl (by simp only [x_seenBy, h1, h2, cond_true, cond_false] <;> rfl) (by simp only [x_seenBy, h1, h2, cond_true, cond_false] <;> rfl)
    · refine zeP rfl rfl ?_
      refine zeGR rfl rfl (shS hb (by omega)) rfl rfl ?_
      refine zeGR rfl rfl (shG hb (by omega)) rfl rfl ?_
      refine zeP rfl rfl ?_
      refine zeAL (k := w) rfl (bbl hb (by omega) (by omega)) (shV hb (by omega)) rfl (by omega) ?_
      refine zeP rfl rfl ?_
      exact zeRe rfl rfl rfl rfl (by simp only [x_seenBy, h1, h2, cond_true, cond_false] <;> rfl) (by simp only [x_seenBy, h1, h2, cond_true, cond_false] <;> rfl)
theorem xc_seenBy {σ : Nat → Nat × (Nat → Int32)} {yy : (Nat → Nat → Int64) × Bool × Nat × Nat} {m : Nat → Nat → Int32} {b : Nat} {t : Nat} {w : Nat} (hb : BB b) (ht : t < 4) (hw : w < 32) : zF σ 2 605 [.ref b, .ref (b + 10 + 7 * t), .int (Int32.ofNat w)] (zS1, m, yy) (.inl (some (.int (x_seenBy m b t w)))) (zS1, m, yy) := by
  intro d hd
  obtain ⟨d, rfl⟩ : ∃ k, d = k + 1 := ⟨d - 1, by omega⟩
  exact xp_seenBy hd hb ht hw
def x_isGuessing (m : Nat → Nat → Int32) (b : Nat) (t : Nat) : Int32 := (bif zc1 .eq (m ((b + 14 + 7 * t)) 0) then (Int32.ofNat 0) else (Int32.ofNat 1))
theorem xp_isGuessing {σ : Nat → Nat × (Nat → Int32)} {yy : (Nat → Nat → Int64) × Bool × Nat × Nat} {m : Nat → Nat → Int32} {b : Nat} {t : Nat} {d : Nat} (hd : 2 ≤ d + 1) (hb : BB b) (ht : t < 4) : zEv σ (d + 1) 606 0 [some (.ref b), some (.int (Int32.ofNat t))] [] (zS1, m, yy) (.inl (some (.int (x_isGuessing m b t)))) (zS1, m, yy) := by
  refine zeP rfl rfl ?_
  refine zeK (v := -1) rfl rfl rfl ?_
  refine zeF2 rfl rfl (zne1 (by omega)) ?_
  refine zeP rfl rfl ?_
  refine zeP rfl rfl ?_
  refine zeCV rfl rfl rfl rfl (shM hb) rfl (xc_strandAt (m := m) (b := b) (t := t) (by first | assumption | omega) (by first | assumption | omega)) (by omega) ?_
  dsimp only [Option.toList, List.cons_append, List.nil_append]
  refine zeGR rfl rfl (shS hb (by omega)) rfl rfl ?_
  refine zeGI rfl rfl (shG hb (by omega)) rfl rfl ?_
  refine zeB1 rfl rfl (fun h1 => ?_) (fun h1 => ?_)
  · refine zeKn (c := 0) rfl rfl rfl ?_
    exact zeRe rfl rfl rfl rfl (by simp only [x_isGuessing, h1, cond_true, cond_false] <;> rfl) (by simp only [x_isGuessing, h1, cond_true, cond_false] <;> rfl)
  · refine zeKn (c := 1) rfl rfl rfl ?_
    refine zeP rfl rfl ?_
    exact zeRe rfl rfl rfl rfl (by simp only [x_isGuessing, h1, cond_true, cond_false] <;> rfl) (by simp only [x_isGuessing, h1, cond_true, cond_false] <;> rfl)
theorem xc_isGuessing {σ : Nat → Nat × (Nat → Int32)} {yy : (Nat → Nat → Int64) × Bool × Nat × Nat} {m : Nat → Nat → Int32} {b : Nat} {t : Nat} (hb : BB b) (ht : t < 4) : zF σ 2 606 [.ref b, .int (Int32.ofNat t)] (zS1, m, yy) (.inl (some (.int (x_isGuessing m b t)))) (zS1, m, yy) := by
  intro d hd
  obtain ⟨d, rfl⟩ : ∃ k, d = k + 1 := ⟨d - 1, by omega⟩
  exact xp_isGuessing hd hb ht
def x_fall (m : Nat → Nat → Int32) (b : Nat) (t : Nat) (y : Nat) : Int32 × (Nat → Nat → Int32) := ((-1), (x_logAdd ((x_close ((x_lose ((zm2 ((zm2 ((zm2 ((zm2 ((zm2 m ((b + 10 + 7 * t)) 3 (m ((b + 14 + 7 * t)) 1))) ((b + 10 + 7 * t)) 4 (((zm2 m ((b + 10 + 7 * t)) 3 (m ((b + 14 + 7 * t)) 1))) ((b + 14 + 7 * t)) 2))) ((b + 10 + 7 * t)) 7 (Int32.ofNat 0))) ((b + 10 + 7 * t)) 5 ((((zm2 ((zm2 ((zm2 m ((b + 10 + 7 * t)) 3 (m ((b + 14 + 7 * t)) 1))) ((b + 10 + 7 * t)) 4 (((zm2 m ((b + 10 + 7 * t)) 3 (m ((b + 14 + 7 * t)) 1))) ((b + 14 + 7 * t)) 2))) ((b + 10 + 7 * t)) 7 (Int32.ofNat 0))) ((b + 10 + 7 * t)) 5) + (Int32.ofNat 1)))) ((b + 13 + 7 * t)) y ((((zm2 ((zm2 ((zm2 ((zm2 m ((b + 10 + 7 * t)) 3 (m ((b + 14 + 7 * t)) 1))) ((b + 10 + 7 * t)) 4 (((zm2 m ((b + 10 + 7 * t)) 3 (m ((b + 14 + 7 * t)) 1))) ((b + 14 + 7 * t)) 2))) ((b + 10 + 7 * t)) 7 (Int32.ofNat 0))) ((b + 10 + 7 * t)) 5 ((((zm2 ((zm2 ((zm2 m ((b + 10 + 7 * t)) 3 (m ((b + 14 + 7 * t)) 1))) ((b + 10 + 7 * t)) 4 (((zm2 m ((b + 10 + 7 * t)) 3 (m ((b + 14 + 7 * t)) 1))) ((b + 14 + 7 * t)) 2))) ((b + 10 + 7 * t)) 7 (Int32.ofNat 0))) ((b + 10 + 7 * t)) 5) + (Int32.ofNat 1)))) ((b + 13 + 7 * t)) y) + (Int32.ofNat 1)))) b (((mv m (b + 15 + 7 * t) 0))) ((((zm2 ((zm2 ((zm2 ((zm2 ((zm2 m ((b + 10 + 7 * t)) 3 (m ((b + 14 + 7 * t)) 1))) ((b + 10 + 7 * t)) 4 (((zm2 m ((b + 10 + 7 * t)) 3 (m ((b + 14 + 7 * t)) 1))) ((b + 14 + 7 * t)) 2))) ((b + 10 + 7 * t)) 7 (Int32.ofNat 0))) ((b + 10 + 7 * t)) 5 ((((zm2 ((zm2 ((zm2 m ((b + 10 + 7 * t)) 3 (m ((b + 14 + 7 * t)) 1))) ((b + 10 + 7 * t)) 4 (((zm2 m ((b + 10 + 7 * t)) 3 (m ((b + 14 + 7 * t)) 1))) ((b + 14 + 7 * t)) 2))) ((b + 10 + 7 * t)) 7 (Int32.ofNat 0))) ((b + 10 + 7 * t)) 5) + (Int32.ofNat 1)))) ((b + 13 + 7 * t)) y ((((zm2 ((zm2 ((zm2 ((zm2 m ((b + 10 + 7 * t)) 3 (m ((b + 14 + 7 * t)) 1))) ((b + 10 + 7 * t)) 4 (((zm2 m ((b + 10 + 7 * t)) 3 (m ((b + 14 + 7 * t)) 1))) ((b + 14 + 7 * t)) 2))) ((b + 10 + 7 * t)) 7 (Int32.ofNat 0))) ((b + 10 + 7 * t)) 5 ((((zm2 ((zm2 ((zm2 m ((b + 10 + 7 * t)) 3 (m ((b + 14 + 7 * t)) 1))) ((b + 10 + 7 * t)) 4 (((zm2 m ((b + 10 + 7 * t)) 3 (m ((b + 14 + 7 * t)) 1))) ((b + 14 + 7 * t)) 2))) ((b + 10 + 7 * t)) 7 (Int32.ofNat 0))) ((b + 10 + 7 * t)) 5) + (Int32.ofNat 1)))) ((b + 13 + 7 * t)) y) + (Int32.ofNat 1)))) ((b + 3)) 6)))) b t)) b ((((x_close ((x_lose ((zm2 ((zm2 ((zm2 ((zm2 ((zm2 m ((b + 10 + 7 * t)) 3 (m ((b + 14 + 7 * t)) 1))) ((b + 10 + 7 * t)) 4 (((zm2 m ((b + 10 + 7 * t)) 3 (m ((b + 14 + 7 * t)) 1))) ((b + 14 + 7 * t)) 2))) ((b + 10 + 7 * t)) 7 (Int32.ofNat 0))) ((b + 10 + 7 * t)) 5 ((((zm2 ((zm2 ((zm2 m ((b + 10 + 7 * t)) 3 (m ((b + 14 + 7 * t)) 1))) ((b + 10 + 7 * t)) 4 (((zm2 m ((b + 10 + 7 * t)) 3 (m ((b + 14 + 7 * t)) 1))) ((b + 14 + 7 * t)) 2))) ((b + 10 + 7 * t)) 7 (Int32.ofNat 0))) ((b + 10 + 7 * t)) 5) + (Int32.ofNat 1)))) ((b + 13 + 7 * t)) y ((((zm2 ((zm2 ((zm2 ((zm2 m ((b + 10 + 7 * t)) 3 (m ((b + 14 + 7 * t)) 1))) ((b + 10 + 7 * t)) 4 (((zm2 m ((b + 10 + 7 * t)) 3 (m ((b + 14 + 7 * t)) 1))) ((b + 14 + 7 * t)) 2))) ((b + 10 + 7 * t)) 7 (Int32.ofNat 0))) ((b + 10 + 7 * t)) 5 ((((zm2 ((zm2 ((zm2 m ((b + 10 + 7 * t)) 3 (m ((b + 14 + 7 * t)) 1))) ((b + 10 + 7 * t)) 4 (((zm2 m ((b + 10 + 7 * t)) 3 (m ((b + 14 + 7 * t)) 1))) ((b + 14 + 7 * t)) 2))) ((b + 10 + 7 * t)) 7 (Int32.ofNat 0))) ((b + 10 + 7 * t)) 5) + (Int32.ofNat 1)))) ((b + 13 + 7 * t)) y) + (Int32.ofNat 1)))) b (((mv m (b + 15 + 7 * t) 0))) ((((zm2 ((zm2 ((zm2 ((zm2 ((zm2 m ((b + 10 + 7 * t)) 3 (m ((b + 14 + 7 * t)) 1))) ((b + 10 + 7 * t)) 4 (((zm2 m ((b + 10 + 7 * t)) 3 (m ((b + 14 + 7 * t)) 1))) ((b + 14 + 7 * t)) 2))) ((b + 10 + 7 * t)) 7 (Int32.ofNat 0))) ((b + 10 + 7 * t)) 5 ((((zm2 ((zm2 ((zm2 m ((b + 10 + 7 * t)) 3 (m ((b + 14 + 7 * t)) 1))) ((b + 10 + 7 * t)) 4 (((zm2 m ((b + 10 + 7 * t)) 3 (m ((b + 14 + 7 * t)) 1))) ((b + 14 + 7 * t)) 2))) ((b + 10 + 7 * t)) 7 (Int32.ofNat 0))) ((b + 10 + 7 * t)) 5) + (Int32.ofNat 1)))) ((b + 13 + 7 * t)) y ((((zm2 ((zm2 ((zm2 ((zm2 m ((b + 10 + 7 * t)) 3 (m ((b + 14 + 7 * t)) 1))) ((b + 10 + 7 * t)) 4 (((zm2 m ((b + 10 + 7 * t)) 3 (m ((b + 14 + 7 * t)) 1))) ((b + 14 + 7 * t)) 2))) ((b + 10 + 7 * t)) 7 (Int32.ofNat 0))) ((b + 10 + 7 * t)) 5 ((((zm2 ((zm2 ((zm2 m ((b + 10 + 7 * t)) 3 (m ((b + 14 + 7 * t)) 1))) ((b + 10 + 7 * t)) 4 (((zm2 m ((b + 10 + 7 * t)) 3 (m ((b + 14 + 7 * t)) 1))) ((b + 14 + 7 * t)) 2))) ((b + 10 + 7 * t)) 7 (Int32.ofNat 0))) ((b + 10 + 7 * t)) 5) + (Int32.ofNat 1)))) ((b + 13 + 7 * t)) y) + (Int32.ofNat 1)))) ((b + 3)) 6)))) b t)) b 7)) ((Int32.ofNat t)) ((Int32.ofNat 2)) ((Int32.ofNat y))))
theorem xp_fall {σ : Nat → Nat × (Nat → Int32)} {yy : (Nat → Nat → Int64) × Bool × Nat × Nat} {m : Nat → Nat → Int32} {b : Nat} {t : Nat} {y : Nat} {d : Nat} (hd : 2 ≤ d + 1) (hb : BB b) (ht : t < 4) (hy : y < 5) (hL : m (b + 15 + 7 * t) 0 = Int32.ofNat (mv m (b + 15 + 7 * t) 0)) (hL4 : mv m (b + 15 + 7 * t) 0 < 4) (hn : m (b + 40) 2 = Int32.ofNat (mv m (b + 40) 2)) (hn60 : mv m (b + 40) 2 < 60) : zEv σ (d + 1) 624 0 [some (.ref b), some (.int (Int32.ofNat t)), some (.int (Int32.ofNat y)), none] [] (zS1, m, yy) (.inl (some (.int (x_fall m b t y).1))) (zS1, ((x_fall m b t y).2), yy) := by
  refine zeP rfl rfl ?_
  refine zeP rfl rfl ?_
  refine zeCV rfl rfl rfl rfl (shM hb) rfl (xc_strandAt (m := m) (b := b) (t := t) hb ht) (by omega) ?_
  dsimp only [Option.toList, List.cons_append, List.nil_append]
  refine zeP rfl rfl ?_
  refine zeP rfl rfl ?_
  refine zeP rfl rfl ?_
  refine zeGR rfl rfl (shS hb (by omega)) rfl rfl ?_
  refine zeGI rfl rfl (shG hb (by omega)) rfl rfl ?_
  refine zePI rfl rfl (shS hb (by omega)) rfl ?_
  refine zeP rfl rfl ?_
  refine zeP rfl rfl ?_
  refine zeGR rfl rfl (shS hb (by omega)) rfl rfl ?_
  refine zeGI rfl rfl (shG hb (by omega)) rfl rfl ?_
  refine zePI rfl rfl (shS hb (by omega)) rfl ?_
  refine zeP rfl rfl ?_
  refine zeKn (c := 0) rfl rfl rfl ?_
  refine zePI rfl rfl (shS hb (by omega)) rfl ?_
  refine zeP rfl rfl ?_
  refine zeP rfl rfl ?_
  refine zeGI rfl rfl (shS hb (by omega)) rfl rfl ?_
  refine zeKn (c := 1) rfl rfl rfl ?_
  refine zeP rfl rfl ?_
  refine zePI rfl rfl (shS hb (by omega)) rfl ?_
  refine zeP rfl rfl ?_
  refine zeF1 rfl rfl (c1lt (by omega)) ?_
  refine zeP rfl rfl ?_
  refine zeKn (c := 5) rfl rfl rfl ?_
  refine zeF2 rfl rfl (zcge_f (by omega) (by omega) (by omega)) ?_
  refine zeP rfl rfl ?_
  refine zeGR rfl rfl (shS hb (by omega)) rfl rfl ?_
  refine zeP rfl rfl ?_
  refine zeP rfl rfl ?_
  refine zeAL (k := y) rfl (bbl hb (by omega) (by omega)) (shF hb (by omega)) rfl (by omega) ?_
  refine zeKn (c := 1) rfl rfl rfl ?_
  refine zeP rfl rfl ?_
  refine zeAS (k := y) rfl (shF hb (by omega)) rfl (by omega) ?_
  refine zeP rfl rfl ?_
  refine zeP rfl rfl ?_
  refine zeGR rfl rfl (shS hb (by omega)) rfl rfl ?_
  refine zeGR rfl rfl (shG hb (by omega)) rfl rfl ?_
  refine zeKn (c := 0) rfl rfl rfl ?_
  refine zeAL (k := 0) rfl (bbl hb (by omega) (by omega)) (shO hb (by omega)) rfl (by omega) ?_
  rw [(show (((zm2 ((zm2 ((zm2 ((zm2 ((zm2 m ((b + 10 + 7 * t)) 3 (m ((b + 14 + 7 * t)) 1))) ((b + 10 + 7 * t)) 4 (((zm2 m ((b + 10 + 7 * t)) 3 (m ((b + 14 + 7 * t)) 1))) ((b + 14 + 7 * t)) 2))) ((b + 10 + 7 * t)) 7 (Int32.ofNat 0))) ((b + 10 + 7 * t)) 5 ((((zm2 ((zm2 ((zm2 m ((b + 10 + 7 * t)) 3 (m ((b + 14 + 7 * t)) 1))) ((b + 10 + 7 * t)) 4 (((zm2 m ((b + 10 + 7 * t)) 3 (m ((b + 14 + 7 * t)) 1))) ((b + 14 + 7 * t)) 2))) ((b + 10 + 7 * t)) 7 (Int32.ofNat 0))) ((b + 10 + 7 * t)) 5) + (Int32.ofNat 1)))) ((b + 13 + 7 * t)) y ((((zm2 ((zm2 ((zm2 ((zm2 m ((b + 10 + 7 * t)) 3 (m ((b + 14 + 7 * t)) 1))) ((b + 10 + 7 * t)) 4 (((zm2 m ((b + 10 + 7 * t)) 3 (m ((b + 14 + 7 * t)) 1))) ((b + 14 + 7 * t)) 2))) ((b + 10 + 7 * t)) 7 (Int32.ofNat 0))) ((b + 10 + 7 * t)) 5 ((((zm2 ((zm2 ((zm2 m ((b + 10 + 7 * t)) 3 (m ((b + 14 + 7 * t)) 1))) ((b + 10 + 7 * t)) 4 (((zm2 m ((b + 10 + 7 * t)) 3 (m ((b + 14 + 7 * t)) 1))) ((b + 14 + 7 * t)) 2))) ((b + 10 + 7 * t)) 7 (Int32.ofNat 0))) ((b + 10 + 7 * t)) 5) + (Int32.ofNat 1)))) ((b + 13 + 7 * t)) y) + (Int32.ofNat 1)))) ((b + 15 + 7 * t)) 0) = Int32.ofNat (mv m (b + 15 + 7 * t) 0) from (by simp (disch := omega) only [zx_ne]; exact hL))]
  refine zeCV rfl rfl rfl rfl (shM hb) rfl (xc_lockAt (m := (zm2 ((zm2 ((zm2 ((zm2 ((zm2 m ((b + 10 + 7 * t)) 3 (m ((b + 14 + 7 * t)) 1))) ((b + 10 + 7 * t)) 4 (((zm2 m ((b + 10 + 7 * t)) 3 (m ((b + 14 + 7 * t)) 1))) ((b + 14 + 7 * t)) 2))) ((b + 10 + 7 * t)) 7 (Int32.ofNat 0))) ((b + 10 + 7 * t)) 5 ((((zm2 ((zm2 ((zm2 m ((b + 10 + 7 * t)) 3 (m ((b + 14 + 7 * t)) 1))) ((b + 10 + 7 * t)) 4 (((zm2 m ((b + 10 + 7 * t)) 3 (m ((b + 14 + 7 * t)) 1))) ((b + 14 + 7 * t)) 2))) ((b + 10 + 7 * t)) 7 (Int32.ofNat 0))) ((b + 10 + 7 * t)) 5) + (Int32.ofNat 1)))) ((b + 13 + 7 * t)) y ((((zm2 ((zm2 ((zm2 ((zm2 m ((b + 10 + 7 * t)) 3 (m ((b + 14 + 7 * t)) 1))) ((b + 10 + 7 * t)) 4 (((zm2 m ((b + 10 + 7 * t)) 3 (m ((b + 14 + 7 * t)) 1))) ((b + 14 + 7 * t)) 2))) ((b + 10 + 7 * t)) 7 (Int32.ofNat 0))) ((b + 10 + 7 * t)) 5 ((((zm2 ((zm2 ((zm2 m ((b + 10 + 7 * t)) 3 (m ((b + 14 + 7 * t)) 1))) ((b + 10 + 7 * t)) 4 (((zm2 m ((b + 10 + 7 * t)) 3 (m ((b + 14 + 7 * t)) 1))) ((b + 14 + 7 * t)) 2))) ((b + 10 + 7 * t)) 7 (Int32.ofNat 0))) ((b + 10 + 7 * t)) 5) + (Int32.ofNat 1)))) ((b + 13 + 7 * t)) y) + (Int32.ofNat 1)))) (b := b) (l := (mv m (b + 15 + 7 * t) 0)) hb hL4) (by omega) ?_
  dsimp only [Option.toList, List.cons_append, List.nil_append]
  refine zeP rfl rfl ?_
  refine zeGR rfl rfl (shM hb) rfl rfl ?_
  refine zeKn (c := 6) rfl rfl rfl ?_
  refine zeAL (k := 6) rfl (bb1000 hb (by omega)) (shE hb) rfl (by omega) ?_
  refine zeCV rfl rfl rfl rfl (shL hb (by omega)) rfl (xc_lose (m := (zm2 ((zm2 ((zm2 ((zm2 ((zm2 m ((b + 10 + 7 * t)) 3 (m ((b + 14 + 7 * t)) 1))) ((b + 10 + 7 * t)) 4 (((zm2 m ((b + 10 + 7 * t)) 3 (m ((b + 14 + 7 * t)) 1))) ((b + 14 + 7 * t)) 2))) ((b + 10 + 7 * t)) 7 (Int32.ofNat 0))) ((b + 10 + 7 * t)) 5 ((((zm2 ((zm2 ((zm2 m ((b + 10 + 7 * t)) 3 (m ((b + 14 + 7 * t)) 1))) ((b + 10 + 7 * t)) 4 (((zm2 m ((b + 10 + 7 * t)) 3 (m ((b + 14 + 7 * t)) 1))) ((b + 14 + 7 * t)) 2))) ((b + 10 + 7 * t)) 7 (Int32.ofNat 0))) ((b + 10 + 7 * t)) 5) + (Int32.ofNat 1)))) ((b + 13 + 7 * t)) y ((((zm2 ((zm2 ((zm2 ((zm2 m ((b + 10 + 7 * t)) 3 (m ((b + 14 + 7 * t)) 1))) ((b + 10 + 7 * t)) 4 (((zm2 m ((b + 10 + 7 * t)) 3 (m ((b + 14 + 7 * t)) 1))) ((b + 14 + 7 * t)) 2))) ((b + 10 + 7 * t)) 7 (Int32.ofNat 0))) ((b + 10 + 7 * t)) 5 ((((zm2 ((zm2 ((zm2 m ((b + 10 + 7 * t)) 3 (m ((b + 14 + 7 * t)) 1))) ((b + 10 + 7 * t)) 4 (((zm2 m ((b + 10 + 7 * t)) 3 (m ((b + 14 + 7 * t)) 1))) ((b + 14 + 7 * t)) 2))) ((b + 10 + 7 * t)) 7 (Int32.ofNat 0))) ((b + 10 + 7 * t)) 5) + (Int32.ofNat 1)))) ((b + 13 + 7 * t)) y) + (Int32.ofNat 1)))) (b := b) (l := ((mv m (b + 15 + 7 * t) 0))) (x := (((zm2 ((zm2 ((zm2 ((zm2 ((zm2 m ((b + 10 + 7 * t)) 3 (m ((b + 14 + 7 * t)) 1))) ((b + 10 + 7 * t)) 4 (((zm2 m ((b + 10 + 7 * t)) 3 (m ((b + 14 + 7 * t)) 1))) ((b + 14 + 7 * t)) 2))) ((b + 10 + 7 * t)) 7 (Int32.ofNat 0))) ((b + 10 + 7 * t)) 5 ((((zm2 ((zm2 ((zm2 m ((b + 10 + 7 * t)) 3 (m ((b + 14 + 7 * t)) 1))) ((b + 10 + 7 * t)) 4 (((zm2 m ((b + 10 + 7 * t)) 3 (m ((b + 14 + 7 * t)) 1))) ((b + 14 + 7 * t)) 2))) ((b + 10 + 7 * t)) 7 (Int32.ofNat 0))) ((b + 10 + 7 * t)) 5) + (Int32.ofNat 1)))) ((b + 13 + 7 * t)) y ((((zm2 ((zm2 ((zm2 ((zm2 m ((b + 10 + 7 * t)) 3 (m ((b + 14 + 7 * t)) 1))) ((b + 10 + 7 * t)) 4 (((zm2 m ((b + 10 + 7 * t)) 3 (m ((b + 14 + 7 * t)) 1))) ((b + 14 + 7 * t)) 2))) ((b + 10 + 7 * t)) 7 (Int32.ofNat 0))) ((b + 10 + 7 * t)) 5 ((((zm2 ((zm2 ((zm2 m ((b + 10 + 7 * t)) 3 (m ((b + 14 + 7 * t)) 1))) ((b + 10 + 7 * t)) 4 (((zm2 m ((b + 10 + 7 * t)) 3 (m ((b + 14 + 7 * t)) 1))) ((b + 14 + 7 * t)) 2))) ((b + 10 + 7 * t)) 7 (Int32.ofNat 0))) ((b + 10 + 7 * t)) 5) + (Int32.ofNat 1)))) ((b + 13 + 7 * t)) y) + (Int32.ofNat 1)))) ((b + 3)) 6)) hb hL4) (by omega) ?_
  dsimp only [Option.toList, List.cons_append, List.nil_append]
  refine zeP rfl rfl ?_
  refine zeGR rfl rfl (shS hb (by omega)) rfl rfl ?_
  refine zeCV rfl rfl rfl rfl (shG hb (by omega)) rfl (xc_close (m := (x_lose ((zm2 ((zm2 ((zm2 ((zm2 ((zm2 m ((b + 10 + 7 * t)) 3 (m ((b + 14 + 7 * t)) 1))) ((b + 10 + 7 * t)) 4 (((zm2 m ((b + 10 + 7 * t)) 3 (m ((b + 14 + 7 * t)) 1))) ((b + 14 + 7 * t)) 2))) ((b + 10 + 7 * t)) 7 (Int32.ofNat 0))) ((b + 10 + 7 * t)) 5 ((((zm2 ((zm2 ((zm2 m ((b + 10 + 7 * t)) 3 (m ((b + 14 + 7 * t)) 1))) ((b + 10 + 7 * t)) 4 (((zm2 m ((b + 10 + 7 * t)) 3 (m ((b + 14 + 7 * t)) 1))) ((b + 14 + 7 * t)) 2))) ((b + 10 + 7 * t)) 7 (Int32.ofNat 0))) ((b + 10 + 7 * t)) 5) + (Int32.ofNat 1)))) ((b + 13 + 7 * t)) y ((((zm2 ((zm2 ((zm2 ((zm2 m ((b + 10 + 7 * t)) 3 (m ((b + 14 + 7 * t)) 1))) ((b + 10 + 7 * t)) 4 (((zm2 m ((b + 10 + 7 * t)) 3 (m ((b + 14 + 7 * t)) 1))) ((b + 14 + 7 * t)) 2))) ((b + 10 + 7 * t)) 7 (Int32.ofNat 0))) ((b + 10 + 7 * t)) 5 ((((zm2 ((zm2 ((zm2 m ((b + 10 + 7 * t)) 3 (m ((b + 14 + 7 * t)) 1))) ((b + 10 + 7 * t)) 4 (((zm2 m ((b + 10 + 7 * t)) 3 (m ((b + 14 + 7 * t)) 1))) ((b + 14 + 7 * t)) 2))) ((b + 10 + 7 * t)) 7 (Int32.ofNat 0))) ((b + 10 + 7 * t)) 5) + (Int32.ofNat 1)))) ((b + 13 + 7 * t)) y) + (Int32.ofNat 1)))) b (((mv m (b + 15 + 7 * t) 0))) ((((zm2 ((zm2 ((zm2 ((zm2 ((zm2 m ((b + 10 + 7 * t)) 3 (m ((b + 14 + 7 * t)) 1))) ((b + 10 + 7 * t)) 4 (((zm2 m ((b + 10 + 7 * t)) 3 (m ((b + 14 + 7 * t)) 1))) ((b + 14 + 7 * t)) 2))) ((b + 10 + 7 * t)) 7 (Int32.ofNat 0))) ((b + 10 + 7 * t)) 5 ((((zm2 ((zm2 ((zm2 m ((b + 10 + 7 * t)) 3 (m ((b + 14 + 7 * t)) 1))) ((b + 10 + 7 * t)) 4 (((zm2 m ((b + 10 + 7 * t)) 3 (m ((b + 14 + 7 * t)) 1))) ((b + 14 + 7 * t)) 2))) ((b + 10 + 7 * t)) 7 (Int32.ofNat 0))) ((b + 10 + 7 * t)) 5) + (Int32.ofNat 1)))) ((b + 13 + 7 * t)) y ((((zm2 ((zm2 ((zm2 ((zm2 m ((b + 10 + 7 * t)) 3 (m ((b + 14 + 7 * t)) 1))) ((b + 10 + 7 * t)) 4 (((zm2 m ((b + 10 + 7 * t)) 3 (m ((b + 14 + 7 * t)) 1))) ((b + 14 + 7 * t)) 2))) ((b + 10 + 7 * t)) 7 (Int32.ofNat 0))) ((b + 10 + 7 * t)) 5 ((((zm2 ((zm2 ((zm2 m ((b + 10 + 7 * t)) 3 (m ((b + 14 + 7 * t)) 1))) ((b + 10 + 7 * t)) 4 (((zm2 m ((b + 10 + 7 * t)) 3 (m ((b + 14 + 7 * t)) 1))) ((b + 14 + 7 * t)) 2))) ((b + 10 + 7 * t)) 7 (Int32.ofNat 0))) ((b + 10 + 7 * t)) 5) + (Int32.ofNat 1)))) ((b + 13 + 7 * t)) y) + (Int32.ofNat 1)))) ((b + 3)) 6)))) (b := b) (t := t) hb ht) (by omega) ?_
  dsimp only [Option.toList, List.cons_append, List.nil_append]
  refine zeP rfl rfl ?_
  refine zeGR rfl rfl (shM hb) rfl rfl ?_
  refine zeP rfl rfl ?_
  refine zeGI rfl rfl (shM hb) rfl rfl ?_
  refine zeP rfl rfl ?_
  refine zeKn (c := 2) rfl rfl rfl ?_
  refine zeP rfl rfl ?_
  refine zeCV rfl rfl rfl rfl (shLG hb) rfl (xc_logAdd (m := (x_close ((x_lose ((zm2 ((zm2 ((zm2 ((zm2 ((zm2 m ((b + 10 + 7 * t)) 3 (m ((b + 14 + 7 * t)) 1))) ((b + 10 + 7 * t)) 4 (((zm2 m ((b + 10 + 7 * t)) 3 (m ((b + 14 + 7 * t)) 1))) ((b + 14 + 7 * t)) 2))) ((b + 10 + 7 * t)) 7 (Int32.ofNat 0))) ((b + 10 + 7 * t)) 5 ((((zm2 ((zm2 ((zm2 m ((b + 10 + 7 * t)) 3 (m ((b + 14 + 7 * t)) 1))) ((b + 10 + 7 * t)) 4 (((zm2 m ((b + 10 + 7 * t)) 3 (m ((b + 14 + 7 * t)) 1))) ((b + 14 + 7 * t)) 2))) ((b + 10 + 7 * t)) 7 (Int32.ofNat 0))) ((b + 10 + 7 * t)) 5) + (Int32.ofNat 1)))) ((b + 13 + 7 * t)) y ((((zm2 ((zm2 ((zm2 ((zm2 m ((b + 10 + 7 * t)) 3 (m ((b + 14 + 7 * t)) 1))) ((b + 10 + 7 * t)) 4 (((zm2 m ((b + 10 + 7 * t)) 3 (m ((b + 14 + 7 * t)) 1))) ((b + 14 + 7 * t)) 2))) ((b + 10 + 7 * t)) 7 (Int32.ofNat 0))) ((b + 10 + 7 * t)) 5 ((((zm2 ((zm2 ((zm2 m ((b + 10 + 7 * t)) 3 (m ((b + 14 + 7 * t)) 1))) ((b + 10 + 7 * t)) 4 (((zm2 m ((b + 10 + 7 * t)) 3 (m ((b + 14 + 7 * t)) 1))) ((b + 14 + 7 * t)) 2))) ((b + 10 + 7 * t)) 7 (Int32.ofNat 0))) ((b + 10 + 7 * t)) 5) + (Int32.ofNat 1)))) ((b + 13 + 7 * t)) y) + (Int32.ofNat 1)))) b (((mv m (b + 15 + 7 * t) 0))) ((((zm2 ((zm2 ((zm2 ((zm2 ((zm2 m ((b + 10 + 7 * t)) 3 (m ((b + 14 + 7 * t)) 1))) ((b + 10 + 7 * t)) 4 (((zm2 m ((b + 10 + 7 * t)) 3 (m ((b + 14 + 7 * t)) 1))) ((b + 14 + 7 * t)) 2))) ((b + 10 + 7 * t)) 7 (Int32.ofNat 0))) ((b + 10 + 7 * t)) 5 ((((zm2 ((zm2 ((zm2 m ((b + 10 + 7 * t)) 3 (m ((b + 14 + 7 * t)) 1))) ((b + 10 + 7 * t)) 4 (((zm2 m ((b + 10 + 7 * t)) 3 (m ((b + 14 + 7 * t)) 1))) ((b + 14 + 7 * t)) 2))) ((b + 10 + 7 * t)) 7 (Int32.ofNat 0))) ((b + 10 + 7 * t)) 5) + (Int32.ofNat 1)))) ((b + 13 + 7 * t)) y ((((zm2 ((zm2 ((zm2 ((zm2 m ((b + 10 + 7 * t)) 3 (m ((b + 14 + 7 * t)) 1))) ((b + 10 + 7 * t)) 4 (((zm2 m ((b + 10 + 7 * t)) 3 (m ((b + 14 + 7 * t)) 1))) ((b + 14 + 7 * t)) 2))) ((b + 10 + 7 * t)) 7 (Int32.ofNat 0))) ((b + 10 + 7 * t)) 5 ((((zm2 ((zm2 ((zm2 m ((b + 10 + 7 * t)) 3 (m ((b + 14 + 7 * t)) 1))) ((b + 10 + 7 * t)) 4 (((zm2 m ((b + 10 + 7 * t)) 3 (m ((b + 14 + 7 * t)) 1))) ((b + 14 + 7 * t)) 2))) ((b + 10 + 7 * t)) 7 (Int32.ofNat 0))) ((b + 10 + 7 * t)) 5) + (Int32.ofNat 1)))) ((b + 13 + 7 * t)) y) + (Int32.ofNat 1)))) ((b + 3)) 6)))) b t)) (b := b) (t := (((x_close ((x_lose ((zm2 ((zm2 ((zm2 ((zm2 ((zm2 m ((b + 10 + 7 * t)) 3 (m ((b + 14 + 7 * t)) 1))) ((b + 10 + 7 * t)) 4 (((zm2 m ((b + 10 + 7 * t)) 3 (m ((b + 14 + 7 * t)) 1))) ((b + 14 + 7 * t)) 2))) ((b + 10 + 7 * t)) 7 (Int32.ofNat 0))) ((b + 10 + 7 * t)) 5 ((((zm2 ((zm2 ((zm2 m ((b + 10 + 7 * t)) 3 (m ((b + 14 + 7 * t)) 1))) ((b + 10 + 7 * t)) 4 (((zm2 m ((b + 10 + 7 * t)) 3 (m ((b + 14 + 7 * t)) 1))) ((b + 14 + 7 * t)) 2))) ((b + 10 + 7 * t)) 7 (Int32.ofNat 0))) ((b + 10 + 7 * t)) 5) + (Int32.ofNat 1)))) ((b + 13 + 7 * t)) y ((((zm2 ((zm2 ((zm2 ((zm2 m ((b + 10 + 7 * t)) 3 (m ((b + 14 + 7 * t)) 1))) ((b + 10 + 7 * t)) 4 (((zm2 m ((b + 10 + 7 * t)) 3 (m ((b + 14 + 7 * t)) 1))) ((b + 14 + 7 * t)) 2))) ((b + 10 + 7 * t)) 7 (Int32.ofNat 0))) ((b + 10 + 7 * t)) 5 ((((zm2 ((zm2 ((zm2 m ((b + 10 + 7 * t)) 3 (m ((b + 14 + 7 * t)) 1))) ((b + 10 + 7 * t)) 4 (((zm2 m ((b + 10 + 7 * t)) 3 (m ((b + 14 + 7 * t)) 1))) ((b + 14 + 7 * t)) 2))) ((b + 10 + 7 * t)) 7 (Int32.ofNat 0))) ((b + 10 + 7 * t)) 5) + (Int32.ofNat 1)))) ((b + 13 + 7 * t)) y) + (Int32.ofNat 1)))) b (((mv m (b + 15 + 7 * t) 0))) ((((zm2 ((zm2 ((zm2 ((zm2 ((zm2 m ((b + 10 + 7 * t)) 3 (m ((b + 14 + 7 * t)) 1))) ((b + 10 + 7 * t)) 4 (((zm2 m ((b + 10 + 7 * t)) 3 (m ((b + 14 + 7 * t)) 1))) ((b + 14 + 7 * t)) 2))) ((b + 10 + 7 * t)) 7 (Int32.ofNat 0))) ((b + 10 + 7 * t)) 5 ((((zm2 ((zm2 ((zm2 m ((b + 10 + 7 * t)) 3 (m ((b + 14 + 7 * t)) 1))) ((b + 10 + 7 * t)) 4 (((zm2 m ((b + 10 + 7 * t)) 3 (m ((b + 14 + 7 * t)) 1))) ((b + 14 + 7 * t)) 2))) ((b + 10 + 7 * t)) 7 (Int32.ofNat 0))) ((b + 10 + 7 * t)) 5) + (Int32.ofNat 1)))) ((b + 13 + 7 * t)) y ((((zm2 ((zm2 ((zm2 ((zm2 m ((b + 10 + 7 * t)) 3 (m ((b + 14 + 7 * t)) 1))) ((b + 10 + 7 * t)) 4 (((zm2 m ((b + 10 + 7 * t)) 3 (m ((b + 14 + 7 * t)) 1))) ((b + 14 + 7 * t)) 2))) ((b + 10 + 7 * t)) 7 (Int32.ofNat 0))) ((b + 10 + 7 * t)) 5 ((((zm2 ((zm2 ((zm2 m ((b + 10 + 7 * t)) 3 (m ((b + 14 + 7 * t)) 1))) ((b + 10 + 7 * t)) 4 (((zm2 m ((b + 10 + 7 * t)) 3 (m ((b + 14 + 7 * t)) 1))) ((b + 14 + 7 * t)) 2))) ((b + 10 + 7 * t)) 7 (Int32.ofNat 0))) ((b + 10 + 7 * t)) 5) + (Int32.ofNat 1)))) ((b + 13 + 7 * t)) y) + (Int32.ofNat 1)))) ((b + 3)) 6)))) b t)) b 7)) (u := (Int32.ofNat t)) (w := (Int32.ofNat 2)) (v := (Int32.ofNat y)) hb (zxn (by simp (disch := omega) only [close_ne, lose_ne, zx_ne]) hn) (zxb (by simp (disch := omega) only [close_ne, lose_ne, zx_ne]) hn60)) (by omega) ?_
  dsimp only [Option.toList, List.cons_append, List.nil_append]
  refine zeK (v := -1) rfl rfl rfl ?_
  exact zeRe rfl rfl rfl rfl (by rfl) (by rfl)
theorem xc_fall {σ : Nat → Nat × (Nat → Int32)} {yy : (Nat → Nat → Int64) × Bool × Nat × Nat} {m : Nat → Nat → Int32} {b : Nat} {t : Nat} {y : Nat} (hb : BB b) (ht : t < 4) (hy : y < 5) (hL : m (b + 15 + 7 * t) 0 = Int32.ofNat (mv m (b + 15 + 7 * t) 0)) (hL4 : mv m (b + 15 + 7 * t) 0 < 4) (hn : m (b + 40) 2 = Int32.ofNat (mv m (b + 40) 2)) (hn60 : mv m (b + 40) 2 < 60) : zF σ 2 624 [.ref b, .int (Int32.ofNat t), .int (Int32.ofNat y)] (zS1, m, yy) (.inl (some (.int (x_fall m b t y).1))) (zS1, ((x_fall m b t y).2), yy) := by
  intro d hd
  obtain ⟨d, rfl⟩ : ∃ k, d = k + 1 := ⟨d - 1, by omega⟩
  exact xp_fall hd hb ht hy hL hL4 hn hn60
