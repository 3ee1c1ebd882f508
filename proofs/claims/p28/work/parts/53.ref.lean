def q_itFalls (m : Nat → Nat → Int32) (W : Nat → Int32) (t : Nat) (y : Nat) : (Nat → Int32) × (Nat → Nat → Int32) := ((q_falls W t y), (zm2 m 137 5 (Int32.ofNat 1)))
theorem p_itFalls {σ : Nat → Nat × (Nat → Int32)} {yy : (Nat → Nat → Int64) × Bool × Nat × Nat} {m : Nat → Nat → Int32} {W : Nat → Int32} {t : Nat} {y : Nat} {d : Nat} (hd : 4 ≤ d + 1) (ht : t < 4) (hy : y < 5) (hL : W (376 + 103 * t + 11) = Int32.ofNat (nv W (376 + 103 * t + 11))) (hL4 : nv W (376 + 103 * t + 11) < 4) (hC : W 15 = Int32.ofNat (nv W 15)) (hC60 : nv W 15 ≤ 60) : zEv σ (d + 1) 1818 0 [some (.ref 137), some (.int (Int32.ofNat t)), some (.int (Int32.ofNat y))] [] (zS1, zrow m 138 W, yy) (.inl none) (zS1, zrow ((q_itFalls m W t y).2) 138 ((q_itFalls m W t y).1), yy) := by
  refine zeP rfl rfl ?_
  refine zeP rfl rfl ?_
  refine zeP rfl rfl ?_
  refine zeCF rfl rfl rfl rfl rfl rfl (c_falls (m := m) (W := W) (t := t) (y := y) ht hy hL hL4 hC hC60) (by omega) ?_
  dsimp only [Option.toList, List.cons_append, List.nil_append]
  refine zeP rfl rfl ?_
  refine zeKn (c := 1) rfl rfl rfl ?_
  refine zeFB rfl rfl rfl (by decide) ?_
  exact zeRe rfl rfl rfl rfl (by rfl) (by rfl)
theorem c_itFalls {σ : Nat → Nat × (Nat → Int32)} {yy : (Nat → Nat → Int64) × Bool × Nat × Nat} {m : Nat → Nat → Int32} {W : Nat → Int32} {t : Nat} {y : Nat} (ht : t < 4) (hy : y < 5) (hL : W (376 + 103 * t + 11) = Int32.ofNat (nv W (376 + 103 * t + 11))) (hL4 : nv W (376 + 103 * t + 11) < 4) (hC : W 15 = Int32.ofNat (nv W 15)) (hC60 : nv W 15 ≤ 60) : zF σ 4 1818 [.ref 137, .int (Int32.ofNat t), .int (Int32.ofNat y)] (zS1, zrow m 138 W, yy) (.inl none) (zS1, zrow ((q_itFalls m W t y).2) 138 ((q_itFalls m W t y).1), yy) := by
  intro d hd
  obtain ⟨d, rfl⟩ : ∃ k, d = k + 1 := ⟨d - 1, by omega⟩
  exact p_itFalls hd ht hy hL hL4 hC hC60
def l_clash (W : Nat → Int32) (t : Int32) (b : Int32) (r : Int32) : Nat → Int32 → Nat → Int32
  | 0, s, k => s
  | n + 1, s, k => (bif zc1 .eq r then (bif zc2 .eq (Int32.ofNat k) t then (l_clash W t b r n ((s ||| (Int32.ofNat 0))) ((k + 1))) else (bif zc1 .eq (((q_of W k 16) ||| (Int32.ofNat 0)) &&& b) then (l_clash W t b r n ((s ||| (Int32.ofNat 0))) ((k + 1))) else (l_clash W t b r n ((s ||| ((Int32.ofNat 1) <<< ((Int32.ofNat k) &&& 31)))) ((k + 1))))) else (bif zc2 .eq (Int32.ofNat k) t then (l_clash W t b r n ((s ||| (Int32.ofNat 0))) ((k + 1))) else (bif zc1 .eq (((q_of W k 16) ||| (q_of W k 15)) &&& b) then (l_clash W t b r n ((s ||| (Int32.ofNat 0))) ((k + 1))) else (l_clash W t b r n ((s ||| ((Int32.ofNat 1) <<< ((Int32.ofNat k) &&& 31)))) ((k + 1))))))
theorem w_clash {σ : Nat → Nat × (Nat → Int32)} {yy : (Nat → Nat → Int64) × Bool × Nat × Nat} {m : Nat → Nat → Int32} {W : Nat → Int32} {t : Int32} {b : Int32} {r : Int32} {d : Nat} (hd : 3 ≤ d + 1) (hN : W 9 = Int32.ofNat (nv W 9)) (hN4 : nv W 9 ≤ 4) : ∀ (n : Nat) (s : Int32) (k : Nat) (x6 : Option Value), k + n = nv W 9 → zEv σ (d + 1) 1819 6 [some (.ref 137), some (.int t), some (.int b), some (.int r), some (.int s), some (.int (Int32.ofNat k)), x6] [] (zS1, zrow m 138 W, yy) (.inl (some (.int (l_clash W t b r n s k)))) (zS1, zrow m 138 W, yy) := by
  intro n
  induction n with
  | zero =>
    intro s k x6 hk
    refine zeP rfl rfl ?_
    refine zeP rfl rfl ?_
    refine zeCF rfl rfl rfl rfl rfl rfl (c_threads (m := m) (W := W)  ) (by omega) ?_
    dsimp only [Option.toList, List.cons_append, List.nil_append]
    rw [show q_threads W = Int32.ofNat (nv W 9) from hN]
    refine zeT2 rfl rfl (zcge (by omega) (by omega) (by omega)) ?_
    refine zeP rfl rfl ?_
    exact zeRe rfl rfl rfl rfl (by rfl) (by rfl)
  | succ n ih =>
    intro s k x6 hk
    refine zeP rfl rfl ?_
    refine zeP rfl rfl ?_
    refine zeCF rfl rfl rfl rfl rfl rfl (c_threads (m := m) (W := W)  ) (by omega) ?_
    dsimp only [Option.toList, List.cons_append, List.nil_append]
    rw [show q_threads W = Int32.ofNat (nv W 9) from hN]
    refine zeF2 rfl rfl (zcge_f (by omega) (by omega) (by omega)) ?_
    refine zeP rfl rfl ?_
    refine zeP rfl rfl ?_
    refine zeKn (c := 16) rfl rfl rfl ?_
    refine zeCF rfl rfl rfl rfl rfl rfl (c_of (m := m) (W := W) (t := k) (k := 16) (by first | assumption | omega)) (by omega) ?_
    dsimp only [Option.toList, List.cons_append, List.nil_append]
    refine zeP rfl rfl ?_
    refine zeB1 rfl rfl (fun h1 => ?_) (fun h1 => ?_)
    · refine zeKn (c := 0) rfl rfl rfl ?_
      refine zeP rfl rfl ?_
      refine zeP rfl rfl ?_
      refine zeP rfl rfl ?_
      refine zeP rfl rfl ?_
      refine zeP rfl rfl ?_
      refine zeB2 rfl rfl (fun h2 => ?_) (fun h2 => ?_)
      · refine zeKn (c := 0) rfl rfl rfl ?_
        refine zeP rfl rfl ?_
        refine zeP rfl rfl ?_
        refine zeInc rfl rfl ?_
        refine zeP rfl rfl ?_
        simp only [l_clash, h1, h2, cond_true, cond_false]
        exact ih ((s ||| (Int32.ofNat 0))) ((k + 1)) (some (.int ((q_of W k 16) ||| (Int32.ofNat 0))))   (by omega) 
      · refine zeP rfl rfl ?_
        refine zeP rfl rfl ?_
        refine zeP rfl rfl ?_
        refine zeB1 rfl rfl (fun h3 => ?_) (fun h3 => ?_)
        · refine zeKn (c := 0) rfl rfl rfl ?_
          refine zeP rfl rfl ?_
          refine zeP rfl rfl ?_
          refine zeInc rfl rfl ?_
          refine zeP rfl rfl ?_
          simp only [l_clash, h1, h2, h3, cond_true, cond_false]
          exact ih ((s ||| (Int32.ofNat 0))) ((k + 1)) (some (.int ((q_of W k 16) ||| (Int32.ofNat 0))))   (by omega) 
        · refine zeKn (c := 1) rfl rfl rfl ?_
          refine zeP rfl rfl ?_
          refine zeP rfl rfl ?_
          refine zeP rfl rfl ?_
          refine zeP rfl rfl ?_
          refine zeP rfl rfl ?_
          refine zeInc rfl rfl ?_
          refine zeP rfl rfl ?_
          simp only [l_clash, h1, h2, h3, cond_true, cond_false]
          exact ih ((s ||| ((Int32.ofNat 1) <<< ((Int32.ofNat k) &&& 31)))) ((k + 1)) (some (.int ((q_of W k 16) ||| (Int32.ofNat 0))))   (by omega) 
    · refine zeP rfl rfl ?_
      refine zeP rfl rfl ?_
      refine zeKn (c := 15) rfl rfl rfl ?_
      refine zeCF rfl rfl rfl rfl rfl rfl (c_of (m := m) (W := W) (t := k) (k := 15) (by first | assumption | omega)) (by omega) ?_
      dsimp only [Option.toList, List.cons_append, List.nil_append]
      refine zeP rfl rfl ?_
      refine zeP rfl rfl ?_
      refine zeP rfl rfl ?_
      refine zeP rfl rfl ?_
      refine zeP rfl rfl ?_
      refine zeP rfl rfl ?_
      refine zeB2 rfl rfl (fun h4 => ?_) (fun h4 => ?_)
      · refine zeKn (c := 0) rfl rfl rfl ?_
        refine zeP rfl rfl ?_
        refine zeP rfl rfl ?_
        refine zeInc rfl rfl ?_
        refine zeP rfl rfl ?_
        simp only [l_clash, h1, h4, cond_true, cond_false]
        exact ih ((s ||| (Int32.ofNat 0))) ((k + 1)) (some (.int ((q_of W k 16) ||| (q_of W k 15))))   (by omega) 
      · refine zeP rfl rfl ?_
        refine zeP rfl rfl ?_
        refine zeP rfl rfl ?_
        refine zeB1 rfl rfl (fun h5 => ?_) (fun h5 => ?_)
        · refine zeKn (c := 0) rfl rfl rfl ?_
          refine zeP rfl rfl ?_
          refine zeP rfl rfl ?_
          refine zeInc rfl rfl ?_
          refine zeP rfl rfl ?_
          simp only [l_clash, h1, h4, h5, cond_true, cond_false]
          exact ih ((s ||| (Int32.ofNat 0))) ((k + 1)) (some (.int ((q_of W k 16) ||| (q_of W k 15))))   (by omega) 
        · refine zeKn (c := 1) rfl rfl rfl ?_
          refine zeP rfl rfl ?_
          refine zeP rfl rfl ?_
          refine zeP rfl rfl ?_
          refine zeP rfl rfl ?_
          refine zeP rfl rfl ?_
          refine zeInc rfl rfl ?_
          refine zeP rfl rfl ?_
          simp only [l_clash, h1, h4, h5, cond_true, cond_false]
          exact ih ((s ||| ((Int32.ofNat 1) <<< ((Int32.ofNat k) &&& 31)))) ((k + 1)) (some (.int ((q_of W k 16) ||| (q_of W k 15))))   (by omega) 
def q_clash (W : Nat → Int32) (t : Int32) (b : Int32) (r : Int32) : Int32 := (l_clash W t b r ((nv W 9)) ((Int32.ofNat 0)) 0)
theorem p_clash {σ : Nat → Nat × (Nat → Int32)} {yy : (Nat → Nat → Int64) × Bool × Nat × Nat} {m : Nat → Nat → Int32} {W : Nat → Int32} {t : Int32} {b : Int32} {r : Int32} {d : Nat} (hd : 3 ≤ d + 1) (hN : W 9 = Int32.ofNat (nv W 9)) (hN4 : nv W 9 ≤ 4) : zEv σ (d + 1) 1819 0 [some (.ref 137), some (.int t), some (.int b), some (.int r), none, none, none] [] (zS1, zrow m 138 W, yy) (.inl (some (.int (q_clash W t b r)))) (zS1, zrow m 138 W, yy) := by
  refine zeKn (c := 0) rfl rfl rfl ?_
  refine zeP rfl rfl ?_
  refine zeKn (c := 0) rfl rfl rfl ?_
  refine zeP rfl rfl ?_
  simp only [q_clash, cond_true, cond_false]
  exact w_clash (t := t) (b := b) (r := r) (W := W) (m := m) (by omega) (by first | assumption | omega) (by first | assumption | omega) ((nv W 9)) ((Int32.ofNat 0)) (0) (none)   (by omega) 
theorem c_clash {σ : Nat → Nat × (Nat → Int32)} {yy : (Nat → Nat → Int64) × Bool × Nat × Nat} {m : Nat → Nat → Int32} {W : Nat → Int32} {t : Int32} {b : Int32} {r : Int32} (hN : W 9 = Int32.ofNat (nv W 9)) (hN4 : nv W 9 ≤ 4) : zF σ 3 1819 [.ref 137, .int t, .int b, .int r] (zS1, zrow m 138 W, yy) (.inl (some (.int (q_clash W t b r)))) (zS1, zrow m 138 W, yy) := by
  intro d hd
  obtain ⟨d, rfl⟩ : ∃ k, d = k + 1 := ⟨d - 1, by omega⟩
  exact p_clash hd hN hN4
def l_yields (W : Nat → Int32) (t : Nat) (s : Int32) : Nat → Int32 → Nat → Int32
  | 0, b, k => (bif zc1 .eq b then (Int32.ofNat 0) else (bif zc2 .ne (q_of W t 2) (Int32.ofNat 1) then (Int32.ofNat 0) else (bif zc2 .ne (W 8) (Int32.ofNat 1) then (Int32.ofNat 0) else (Int32.ofNat 1))))
  | n + 1, b, k => (bif zc1 .ne b then (l_yields W t s n ((Int32.ofNat 1)) ((k + 1))) else (bif zc1 .eq (q_holds s k) then (l_yields W t s n ((Int32.ofNat 0)) ((k + 1))) else (bif zc2 .ge (q_of W k 20) (q_of W t 20) then (l_yields W t s n ((Int32.ofNat 0)) ((k + 1))) else (l_yields W t s n ((Int32.ofNat 1)) ((k + 1))))))
theorem w_yields {σ : Nat → Nat × (Nat → Int32)} {yy : (Nat → Nat → Int64) × Bool × Nat × Nat} {m : Nat → Nat → Int32} {W : Nat → Int32} {t : Nat} {s : Int32} {d : Nat} (hd : 3 ≤ d + 1) (hN : W 9 = Int32.ofNat (nv W 9)) (hN4 : nv W 9 ≤ 4) (ht : t < 4) : ∀ (n : Nat) (b : Int32) (k : Nat), k + n = nv W 9 → zEv σ (d + 1) 1820 5 [some (.ref 137), some (.int (Int32.ofNat t)), some (.int s), some (.int b), some (.int (Int32.ofNat k))] [] (zS1, zrow m 138 W, yy) (.inl (some (.int (l_yields W t s n b k)))) (zS1, zrow m 138 W, yy) := by
  intro n
  induction n with
  | zero =>
    intro b k hk
    refine zeP rfl rfl ?_
    refine zeP rfl rfl ?_
    refine zeCF rfl rfl rfl rfl rfl rfl (c_threads (m := m) (W := W)  ) (by omega) ?_
    dsimp only [Option.toList, List.cons_append, List.nil_append]
    rw [show q_threads W = Int32.ofNat (nv W 9) from hN]
    refine zeT2 rfl rfl (zcge (by omega) (by omega) (by omega)) ?_
    refine zeP rfl rfl ?_
    refine zeB1 rfl rfl (fun h1 => ?_) (fun h1 => ?_)
    · refine zeKn (c := 0) rfl rfl rfl ?_
      exact zeRe rfl rfl rfl rfl (by simp only [l_yields, h1, cond_true, cond_false] <;> rfl) (by simp only [l_yields, h1, cond_true, cond_false] <;> rfl)
    · refine zeP rfl rfl ?_
      refine zeP rfl rfl ?_
      refine zeKn (c := 2) rfl rfl rfl ?_
      refine zeCF rfl rfl rfl rfl rfl rfl (c_of (m := m) (W := W) (t := t) (k := 2) (by first | assumption | omega)) (by omega) ?_
      dsimp only [Option.toList, List.cons_append, List.nil_append]
      refine zeKn (c := 1) rfl rfl rfl ?_
      refine zeB2 rfl rfl (fun h2 => ?_) (fun h2 => ?_)
      · refine zeKn (c := 0) rfl rfl rfl ?_
        exact zeRe rfl rfl rfl rfl (by simp only [l_yields, h1, h2, cond_true, cond_false] <;> rfl) (by simp only [l_yields, h1, h2, cond_true, cond_false] <;> rfl)
      · refine zeP rfl rfl ?_
        refine zeGR rfl rfl zS137 rfl rfl ?_
        refine zeKn (c := 8) rfl rfl rfl ?_
        refine zeWL (k := 8) rfl (by omega) ?_
        refine zeKn (c := 1) rfl rfl rfl ?_
        refine zeB2 rfl rfl (fun h3 => ?_) (fun h3 => ?_)
        · refine zeKn (c := 0) rfl rfl rfl ?_
          exact zeRe rfl rfl rfl rfl (by simp only [l_yields, h1, h2, h3, cond_true, cond_false] <;> rfl) (by simp only [l_yields, h1, h2, h3, cond_true, cond_false] <;> rfl)
        · refine zeKn (c := 1) rfl rfl rfl ?_
          refine zeP rfl rfl ?_
          exact zeRe rfl rfl rfl rfl (by simp only [l_yields, h1, h2, h3, cond_true, cond_false] <;> rfl) (by simp only [l_yields, h1, h2, h3, cond_true, cond_false] <;> rfl)
  | succ n ih =>
    intro b k hk
    refine zeP rfl rfl ?_
    refine zeP rfl rfl ?_
    refine zeCF rfl rfl rfl rfl rfl rfl (c_threads (m := m) (W := W)  ) (by omega) ?_
    dsimp only [Option.toList, List.cons_append, List.nil_append]
    rw [show q_threads W = Int32.ofNat (nv W 9) from hN]
    refine zeF2 rfl rfl (zcge_f (by omega) (by omega) (by omega)) ?_
    refine zeP rfl rfl ?_
    refine zeB1 rfl rfl (fun h1 => ?_) (fun h1 => ?_)
    · refine zeKn (c := 1) rfl rfl rfl ?_
      refine zeP rfl rfl ?_
      refine zeP rfl rfl ?_
      refine zeInc rfl rfl ?_
      refine zeP rfl rfl ?_
      simp only [l_yields, h1, cond_true, cond_false]
      exact ih ((Int32.ofNat 1)) ((k + 1))   (by omega) 
    · refine zeP rfl rfl ?_
      refine zeP rfl rfl ?_
      refine zeCF rfl rfl rfl rfl rfl rfl (c_holds (m := m) (W := W) (s := s) (k := k) ) (by omega) ?_
      dsimp only [Option.toList, List.cons_append, List.nil_append]
      refine zeB1 rfl rfl (fun h2 => ?_) (fun h2 => ?_)
      · refine zeKn (c := 0) rfl rfl rfl ?_
        refine zeP rfl rfl ?_
        refine zeInc rfl rfl ?_
        refine zeP rfl rfl ?_
        simp only [l_yields, h1, h2, cond_true, cond_false]
        exact ih ((Int32.ofNat 0)) ((k + 1))   (by omega) 
      · refine zeP rfl rfl ?_
        refine zeP rfl rfl ?_
        refine zeKn (c := 20) rfl rfl rfl ?_
        refine zeCF rfl rfl rfl rfl rfl rfl (c_of (m := m) (W := W) (t := k) (k := 20) (by first | assumption | omega)) (by omega) ?_
        dsimp only [Option.toList, List.cons_append, List.nil_append]
        refine zeP rfl rfl ?_
        refine zeP rfl rfl ?_
        refine zeKn (c := 20) rfl rfl rfl ?_
        refine zeCF rfl rfl rfl rfl rfl rfl (c_of (m := m) (W := W) (t := t) (k := 20) (by first | assumption | omega)) (by omega) ?_
        dsimp only [Option.toList, List.cons_append, List.nil_append]
        refine zeB2 rfl rfl (fun h3 => ?_) (fun h3 => ?_)
        · refine zeKn (c := 0) rfl rfl rfl ?_
          refine zeP rfl rfl ?_
          refine zeInc rfl rfl ?_
          refine zeP rfl rfl ?_
          simp only [l_yields, h1, h2, h3, cond_true, cond_false]
          exact ih ((Int32.ofNat 0)) ((k + 1))   (by omega) 
        · refine zeKn (c := 1) rfl rfl rfl ?_
          refine zeP rfl rfl ?_
          refine zeP rfl rfl ?_
          refine zeInc rfl rfl ?_
          refine zeP rfl rfl ?_
          simp only [l_yields, h1, h2, h3, cond_true, cond_false]
          exact ih ((Int32.ofNat 1)) ((k + 1))   (by omega) 
def q_yields (W : Nat → Int32) (t : Nat) (s : Int32) : Int32 := (l_yields W t s ((nv W 9)) ((Int32.ofNat 0)) 0)
theorem p_yields {σ : Nat → Nat × (Nat → Int32)} {yy : (Nat → Nat → Int64) × Bool × Nat × Nat} {m : Nat → Nat → Int32} {W : Nat → Int32} {t : Nat} {s : Int32} {d : Nat} (hd : 3 ≤ d + 1) (hN : W 9 = Int32.ofNat (nv W 9)) (hN4 : nv W 9 ≤ 4) (ht : t < 4) : zEv σ (d + 1) 1820 0 [some (.ref 137), some (.int (Int32.ofNat t)), some (.int s), none, none] [] (zS1, zrow m 138 W, yy) (.inl (some (.int (q_yields W t s)))) (zS1, zrow m 138 W, yy) := by
  refine zeKn (c := 0) rfl rfl rfl ?_
  refine zeP rfl rfl ?_
  refine zeKn (c := 0) rfl rfl rfl ?_
  refine zeP rfl rfl ?_
  simp only [q_yields, cond_true, cond_false]
  exact w_yields (t := t) (s := s) (W := W) (m := m) (by omega) (by first | assumption | omega) (by first | assumption | omega) (by first | assumption | omega) ((nv W 9)) ((Int32.ofNat 0)) (0)   (by omega) 
theorem c_yields {σ : Nat → Nat × (Nat → Int32)} {yy : (Nat → Nat → Int64) × Bool × Nat × Nat} {m : Nat → Nat → Int32} {W : Nat → Int32} {t : Nat} {s : Int32} (hN : W 9 = Int32.ofNat (nv W 9)) (hN4 : nv W 9 ≤ 4) (ht : t < 4) : zF σ 3 1820 [.ref 137, .int (Int32.ofNat t), .int s] (zS1, zrow m 138 W, yy) (.inl (some (.int (q_yields W t s)))) (zS1, zrow m 138 W, yy) := by
  intro d hd
  obtain ⟨d, rfl⟩ : ∃ k, d = k + 1 := ⟨d - 1, by omega⟩
  exact p_yields hd hN hN4 ht
def q_seen (W : Nat → Int32) (t : Nat) (w : Nat) : Int32 := (bif zc1 .eq (q_holds ((q_of W t 17)) w) then (W (32 + w)) else (q_of W t ((23 + w))))
theorem p_seen {σ : Nat → Nat × (Nat → Int32)} {yy : (Nat → Nat → Int64) × Bool × Nat × Nat} {m : Nat → Nat → Int32} {W : Nat → Int32} {t : Nat} {w : Nat} {d : Nat} (hd : 3 ≤ d + 1) (ht : t < 4) (hw : w < 32) : zEv σ (d + 1) 1822 0 [some (.ref 137), some (.int (Int32.ofNat t)), some (.int (Int32.ofNat w))] [] (zS1, zrow m 138 W, yy) (.inl (some (.int (q_seen W t w)))) (zS1, zrow m 138 W, yy) := by
  refine zeP rfl rfl ?_
  refine zeP rfl rfl ?_
  refine zeKn (c := 17) rfl rfl rfl ?_
  refine zeCF rfl rfl rfl rfl rfl rfl (c_of (m := m) (W := W) (t := t) (k := 17) (by first | assumption | omega)) (by omega) ?_
  dsimp only [Option.toList, List.cons_append, List.nil_append]
  refine zeP rfl rfl ?_
  refine zeCF rfl rfl rfl rfl rfl rfl (c_holds (m := m) (W := W) (s := (q_of W t 17)) (k := w) ) (by omega) ?_
  dsimp only [Option.toList, List.cons_append, List.nil_append]
  refine zeB1 rfl rfl (fun h1 => ?_) (fun h1 => ?_)
  · refine zeP rfl rfl ?_
    refine zeGR rfl rfl zS137 rfl rfl ?_
    refine zeKn (c := 32) rfl rfl rfl ?_
    refine zeP rfl rfl ?_
    refine zeAdd rfl ?_
    refine zeWL (k := (32 + w)) rfl (by omega) ?_
    exact zeRe rfl rfl rfl rfl (by simp only [q_seen, h1, cond_true, cond_false] <;> rfl) (by simp only [q_seen, h1, cond_true, cond_false] <;> rfl)
  · refine zeP rfl rfl ?_
    refine zeP rfl rfl ?_
    refine zeKn (c := 23) rfl rfl rfl ?_
    refine zeP rfl rfl ?_
    refine zeAdd rfl ?_
    refine zeCF rfl rfl rfl rfl rfl rfl (c_of (m := m) (W := W) (t := t) (k := (23 + w)) (by first | assumption | omega)) (by omega) ?_
    dsimp only [Option.toList, List.cons_append, List.nil_append]
    refine zeP rfl rfl ?_
    exact zeRe rfl rfl rfl rfl (by simp only [q_seen, h1, cond_true, cond_false] <;> rfl) (by simp only [q_seen, h1, cond_true, cond_false] <;> rfl)
theorem c_seen {σ : Nat → Nat × (Nat → Int32)} {yy : (Nat → Nat → Int64) × Bool × Nat × Nat} {m : Nat → Nat → Int32} {W : Nat → Int32} {t : Nat} {w : Nat} (ht : t < 4) (hw : w < 32) : zF σ 3 1822 [.ref 137, .int (Int32.ofNat t), .int (Int32.ofNat w)] (zS1, zrow m 138 W, yy) (.inl (some (.int (q_seen W t w)))) (zS1, zrow m 138 W, yy) := by
  intro d hd
  obtain ⟨d, rfl⟩ : ∃ k, d = k + 1 := ⟨d - 1, by omega⟩
  exact p_seen hd ht hw
def l_placeLeft (W : Nat → Int32) (t : Nat) (l : Int32) : Nat → Int32 → Nat → Int32
  | 0, p, k => p
  | n + 1, p, k => (bif zc2 .ne (q_of W t ((11 + k))) l then (l_placeLeft W t l n p ((k + 1))) else (l_placeLeft W t l n ((Int32.ofNat k)) ((k + 1))))
theorem w_placeLeft {σ : Nat → Nat × (Nat → Int32)} {yy : (Nat → Nat → Int64) × Bool × Nat × Nat} {m : Nat → Nat → Int32} {W : Nat → Int32} {t : Nat} {l : Int32} {d : Nat} (hd : 3 ≤ d + 1) (ht : t < 4) (hQ : W (376 + 103 * t + 10) = Int32.ofNat (nv W (376 + 103 * t + 10))) (hQ4 : nv W (376 + 103 * t + 10) ≤ 4) : ∀ (n : Nat) (p : Int32) (k : Nat), k + n = nv W (376 + 103 * t + 10) → zEv σ (d + 1) 1825 5 [some (.ref 137), some (.int (Int32.ofNat t)), some (.int l), some (.int p), some (.int (Int32.ofNat k))] [] (zS1, zrow m 138 W, yy) (.inl (some (.int (l_placeLeft W t l n p k)))) (zS1, zrow m 138 W, yy) := by
  intro n
  induction n with
  | zero =>
    intro p k hk
    refine zeP rfl rfl ?_
    refine zeP rfl rfl ?_
    refine zeP rfl rfl ?_
    refine zeKn (c := 10) rfl rfl rfl ?_
    refine zeCF rfl rfl rfl rfl rfl rfl (c_of (m := m) (W := W) (t := t) (k := 10) (by first | assumption | omega)) (by omega) ?_
    dsimp only [Option.toList, List.cons_append, List.nil_append]
    rw [show q_of W t 10 = Int32.ofNat (nv W (376 + 103 * t + 10)) from hQ]
    refine zeT2 rfl rfl (zcge (by omega) (by omega) (by omega)) ?_
    refine zeP rfl rfl ?_
    exact zeRe rfl rfl rfl rfl (by rfl) (by rfl)
  | succ n ih =>
    intro p k hk
    refine zeP rfl rfl ?_
    refine zeP rfl rfl ?_
    refine zeP rfl rfl ?_
    refine zeKn (c := 10) rfl rfl rfl ?_
    refine zeCF rfl rfl rfl rfl rfl rfl (c_of (m := m) (W := W) (t := t) (k := 10) (by first | assumption | omega)) (by omega) ?_
    dsimp only [Option.toList, List.cons_append, List.nil_append]
    rw [show q_of W t 10 = Int32.ofNat (nv W (376 + 103 * t + 10)) from hQ]
    refine zeF2 rfl rfl (zcge_f (by omega) (by omega) (by omega)) ?_
    refine zeP rfl rfl ?_
    refine zeP rfl rfl ?_
    refine zeKn (c := 11) rfl rfl rfl ?_
    refine zeP rfl rfl ?_
    refine zeAdd rfl ?_
    refine zeCF rfl rfl rfl rfl rfl rfl (c_of (m := m) (W := W) (t := t) (k := (11 + k)) (by first | assumption | omega)) (by omega) ?_
    dsimp only [Option.toList, List.cons_append, List.nil_append]
    refine zeP rfl rfl ?_
    refine zeB2 rfl rfl (fun h1 => ?_) (fun h1 => ?_)
    · refine zeP rfl rfl ?_
      refine zeP rfl rfl ?_
      refine zeInc rfl rfl ?_
      refine zeP rfl rfl ?_
      simp only [l_placeLeft, h1, cond_true, cond_false]
      exact ih (p) ((k + 1))   (by omega) 
    · refine zeP rfl rfl ?_
      refine zeP rfl rfl ?_
      refine zeP rfl rfl ?_
      refine zeInc rfl rfl ?_
      refine zeP rfl rfl ?_
      simp only [l_placeLeft, h1, cond_true, cond_false]
      exact ih ((Int32.ofNat k)) ((k + 1))   (by omega) 
def q_placeLeft (W : Nat → Int32) (t : Nat) (l : Int32) : Int32 := (l_placeLeft W t l ((nv W (376 + 103 * t + 10))) ((-1)) 0)
theorem p_placeLeft {σ : Nat → Nat × (Nat → Int32)} {yy : (Nat → Nat → Int64) × Bool × Nat × Nat} {m : Nat → Nat → Int32} {W : Nat → Int32} {t : Nat} {l : Int32} {d : Nat} (hd : 3 ≤ d + 1) (ht : t < 4) (hQ : W (376 + 103 * t + 10) = Int32.ofNat (nv W (376 + 103 * t + 10))) (hQ4 : nv W (376 + 103 * t + 10) ≤ 4) : zEv σ (d + 1) 1825 0 [some (.ref 137), some (.int (Int32.ofNat t)), some (.int l), none, none] [] (zS1, zrow m 138 W, yy) (.inl (some (.int (q_placeLeft W t l)))) (zS1, zrow m 138 W, yy) := by
  refine zeK (v := -1) rfl rfl rfl ?_
  refine zeP rfl rfl ?_
  refine zeKn (c := 0) rfl rfl rfl ?_
  refine zeP rfl rfl ?_
  simp only [q_placeLeft, cond_true, cond_false]
  exact w_placeLeft (t := t) (l := l) (W := W) (m := m) (by omega) (by first | assumption | omega) (by first | assumption | omega) (by first | assumption | omega) ((nv W (376 + 103 * t + 10))) ((-1)) (0)   (by omega) 
theorem c_placeLeft {σ : Nat → Nat × (Nat → Int32)} {yy : (Nat → Nat → Int64) × Bool × Nat × Nat} {m : Nat → Nat → Int32} {W : Nat → Int32} {t : Nat} {l : Int32} (ht : t < 4) (hQ : W (376 + 103 * t + 10) = Int32.ofNat (nv W (376 + 103 * t + 10))) (hQ4 : nv W (376 + 103 * t + 10) ≤ 4) : zF σ 3 1825 [.ref 137, .int (Int32.ofNat t), .int l] (zS1, zrow m 138 W, yy) (.inl (some (.int (q_placeLeft W t l)))) (zS1, zrow m 138 W, yy) := by
  intro d hd
  obtain ⟨d, rfl⟩ : ∃ k, d = k + 1 := ⟨d - 1, by omega⟩
  exact p_placeLeft hd ht hQ hQ4
