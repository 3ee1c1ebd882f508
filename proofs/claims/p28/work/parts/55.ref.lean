theorem zne1 {a : Nat} (h : a < 2147483648) : zc2 .eq (Int32.ofNat a) (-1) = false := by
  apply decide_eq_false
  intro e
  have h1 := congrArg Int32.toInt e
  rw [zoN h] at h1
  have h2 : (-1 : Int32).toInt = -1 := by decide
  omega
def l_clears (t : Int32) (s : Int32) (n9 : Nat) : Nat → Nat → (Nat → Int32) → Int32 × (Nat → Int32)
  | 0, k, W => ((Int32.ofNat 1), W)
  | n + 1, k, W => (bif zc1 .eq (q_holds s k) then (l_clears t s n9 n ((k + 1)) W) else (l_clears t s n9 n ((k + 1)) ((q_falls W k 0))))
theorem w_clears {σ : Nat → Nat × (Nat → Int32)} {yy : (Nat → Nat → Int64) × Bool × Nat × Nat} {m : Nat → Nat → Int32} {t : Int32} {s : Int32} {n9 : Nat} {d : Nat} (hd : 4 ≤ d + 1) (hn : n9 ≤ 4) : ∀ (n : Nat) (k : Nat) (W : Nat → Int32), k + n = n9 → W 9 = Int32.ofNat n9 → WC W → WL W → zEv σ (d + 1) 1821 24 [some (.ref 137), some (.int t), some (.int s), some (.int (Int32.ofNat k))] [] (zS1, zrow m 138 W, yy) (.inl (some (.int (l_clears t s n9 n k W).1))) (zS1, zrow m 138 ((l_clears t s n9 n k W).2), yy) := by
  intro n
  induction n with
  | zero =>
    intro k W hk hN hC hWL
    refine zeP rfl rfl ?_
    refine zeP rfl rfl ?_
    refine zeCF rfl rfl rfl rfl rfl rfl (c_threads (m := m) (W := W)  ) (by omega) ?_
    dsimp only [Option.toList, List.cons_append, List.nil_append]
    rw [show q_threads W = Int32.ofNat n9 from hN]
    refine zeT2 rfl rfl (zcge (by omega) (by omega) (by omega)) ?_
    refine zeKn (c := 1) rfl rfl rfl ?_
    exact zeRe rfl rfl rfl rfl (by rfl) (by rfl)
  | succ n ih =>
    intro k W hk hN hC hWL
    refine zeP rfl rfl ?_
    refine zeP rfl rfl ?_
    refine zeCF rfl rfl rfl rfl rfl rfl (c_threads (m := m) (W := W)  ) (by omega) ?_
    dsimp only [Option.toList, List.cons_append, List.nil_append]
    rw [show q_threads W = Int32.ofNat n9 from hN]
    refine zeF2 rfl rfl (zcge_f (by omega) (by omega) (by omega)) ?_
    refine zeP rfl rfl ?_
    refine zeP rfl rfl ?_
    refine zeCF rfl rfl rfl rfl rfl rfl (c_holds (m := m) (W := W) (s := s) (k := k) ) (by omega) ?_
    dsimp only [Option.toList, List.cons_append, List.nil_append]
    refine zeB1 rfl rfl (fun h1 => ?_) (fun h1 => ?_)
    · refine zeInc rfl rfl ?_
      refine zeP rfl rfl ?_
      simp only [l_clears, h1, cond_true, cond_false]
      exact ih ((k + 1)) W  (by omega) (by first | exact hN | (rw [falls_9 (by omega) (by omega) hC hWL]; exact hN)) (by first | exact hC | exact falls_WC (by omega) (by omega) hC) (by first | exact hWL | exact falls_WL (by omega) (by omega) hC hWL)
    · refine zeP rfl rfl ?_
      refine zeP rfl rfl ?_
      refine zeKn (c := 0) rfl rfl rfl ?_
      refine zeCF rfl rfl rfl rfl rfl rfl (c_falls (m := m) (W := W) (t := k) (y := 0) (by omega) (by omega) (hWL k (by omega)).1 (hWL k (by omega)).2 hC.1 hC.2) (by omega) ?_
      dsimp only [Option.toList, List.cons_append, List.nil_append]
      refine zeInc rfl rfl ?_
      refine zeP rfl rfl ?_
      simp only [l_clears, h1, cond_true, cond_false]
      exact ih ((k + 1)) ((q_falls W k 0))  (by omega) (by first | exact hN | (rw [falls_9 (by omega) (by omega) hC hWL]; exact hN)) (by first | exact hC | exact falls_WC (by omega) (by omega) hC) (by first | exact hWL | exact falls_WL (by omega) (by omega) hC hWL)
def q_clearsX (W : Nat → Int32) (s : Int32) : Int32 × (Nat → Int32) := (l_clears ((-1)) s ((nv W 9)) ((nv W 9)) 0 W)
theorem p_clearsX {σ : Nat → Nat × (Nat → Int32)} {yy : (Nat → Nat → Int64) × Bool × Nat × Nat} {m : Nat → Nat → Int32} {W : Nat → Int32} {s : Int32} {d : Nat} (hd : 4 ≤ d + 1) (hN : W 9 = Int32.ofNat (nv W 9)) (hN4 : nv W 9 ≤ 4) (hC : WC W) (hWL : WL W) : zEv σ (d + 1) 1821 0 [some (.ref 137), some (.int (-1)), some (.int s), none] [] (zS1, zrow m 138 W, yy) (.inl (some (.int (q_clearsX W s).1))) (zS1, zrow m 138 ((q_clearsX W s).2), yy) := by
  refine zeP rfl rfl ?_
  refine zeK (v := -1) rfl rfl rfl ?_
  refine zeT2 rfl rfl (by decide) ?_
  refine zeKn (c := 0) rfl rfl rfl ?_
  refine zeP rfl rfl ?_
  simp only [q_clearsX, cond_true, cond_false]
  exact w_clears (t := (-1)) (s := s) (n9 := (nv W 9)) (m := m) (by omega) hN4 ((nv W 9)) (0) W  (by omega) hN hC hWL
theorem c_clearsX {σ : Nat → Nat × (Nat → Int32)} {yy : (Nat → Nat → Int64) × Bool × Nat × Nat} {m : Nat → Nat → Int32} {W : Nat → Int32} {s : Int32} (hN : W 9 = Int32.ofNat (nv W 9)) (hN4 : nv W 9 ≤ 4) (hC : WC W) (hWL : WL W) : zF σ 4 1821 [.ref 137, .int (-1), .int s] (zS1, zrow m 138 W, yy) (.inl (some (.int (q_clearsX W s).1))) (zS1, zrow m 138 ((q_clearsX W s).2), yy) := by
  intro d hd
  obtain ⟨d, rfl⟩ : ∃ k, d = k + 1 := ⟨d - 1, by omega⟩
  exact p_clearsX hd hN hN4 hC hWL
def q_clears (m : Nat → Nat → Int32) (W : Nat → Int32) (t : Nat) (s : Int32) : Int32 × (Nat → Int32) × (Nat → Nat → Int32) := (bif zc1 .eq (q_yields W t s) then ((l_clears ((Int32.ofNat t)) s ((nv W 9)) ((nv W 9)) 0 W).1, (l_clears ((Int32.ofNat t)) s ((nv W 9)) ((nv W 9)) 0 W).2, m) else ((Int32.ofNat 0), (q_itFalls m W t 0).1, (q_itFalls m W t 0).2))
theorem p_clears {σ : Nat → Nat × (Nat → Int32)} {yy : (Nat → Nat → Int64) × Bool × Nat × Nat} {m : Nat → Nat → Int32} {W : Nat → Int32} {t : Nat} {s : Int32} {d : Nat} (hd : 5 ≤ d + 1) (ht : t < 4) (hN : W 9 = Int32.ofNat (nv W 9)) (hN4 : nv W 9 ≤ 4) (hC : WC W) (hWL : WL W) : zEv σ (d + 1) 1821 0 [some (.ref 137), some (.int (Int32.ofNat t)), some (.int s), none] [] (zS1, zrow m 138 W, yy) (.inl (some (.int (q_clears m W t s).1))) (zS1, zrow ((q_clears m W t s).2.2) 138 ((q_clears m W t s).2.1), yy) := by
  refine zeP rfl rfl ?_
  refine zeK (v := -1) rfl rfl rfl ?_
  refine zeF2 rfl rfl (zne1 (by omega)) ?_
  refine zeP rfl rfl ?_
  refine zeP rfl rfl ?_
  refine zeP rfl rfl ?_
  refine zeCF rfl rfl rfl rfl rfl rfl (c_yields (m := m) (W := W) (t := t) (s := s) hN hN4 ht) (by omega) ?_
  dsimp only [Option.toList, List.cons_append, List.nil_append]
  refine zeB1 rfl rfl (fun h1 => ?_) (fun h1 => ?_)
  · refine zeKn (c := 0) rfl rfl rfl ?_
    refine zeP rfl rfl ?_
    simp only [q_clears, h1, cond_true, cond_false]
    exact w_clears (t := (Int32.ofNat t)) (s := s) (n9 := (nv W 9)) (m := m) (by omega) hN4 ((nv W 9)) (0) W  (by omega) hN hC hWL
  · refine zeP rfl rfl ?_
    refine zeP rfl rfl ?_
    refine zeKn (c := 0) rfl rfl rfl ?_
    refine zeCF rfl rfl rfl rfl rfl rfl (c_itFalls (m := m) (W := W) (t := t) (y := 0) ht (by omega) (hWL t ht).1 (hWL t ht).2 hC.1 hC.2) (by omega) ?_
    dsimp only [Option.toList, List.cons_append, List.nil_append]
    refine zeKn (c := 0) rfl rfl rfl ?_
    exact zeRe rfl rfl rfl rfl (by simp only [q_clears, h1, cond_true, cond_false] <;> rfl) (by simp only [q_clears, h1, cond_true, cond_false] <;> rfl)
theorem c_clears {σ : Nat → Nat × (Nat → Int32)} {yy : (Nat → Nat → Int64) × Bool × Nat × Nat} {m : Nat → Nat → Int32} {W : Nat → Int32} {t : Nat} {s : Int32} (ht : t < 4) (hN : W 9 = Int32.ofNat (nv W 9)) (hN4 : nv W 9 ≤ 4) (hC : WC W) (hWL : WL W) : zF σ 5 1821 [.ref 137, .int (Int32.ofNat t), .int s] (zS1, zrow m 138 W, yy) (.inl (some (.int (q_clears m W t s).1))) (zS1, zrow ((q_clears m W t s).2.2) 138 ((q_clears m W t s).2.1), yy) := by
  intro d hd
  obtain ⟨d, rfl⟩ : ∃ k, d = k + 1 := ⟨d - 1, by omega⟩
  exact p_clears hd ht hN hN4 hC hWL
def q_leavesOut (W : Nat → Int32) (t : Nat) (l : Nat) : (Nat → Int32) := (upd ((upd W (376 + 103 * t + ((11 + (nv W (376 + 103 * t + 10))))) (Int32.ofNat l))) (376 + 103 * t + 10) ((((upd W (376 + 103 * t + ((11 + (nv W (376 + 103 * t + 10))))) (Int32.ofNat l))) (376 + 103 * t + 10)) + (Int32.ofNat 1)))
theorem p_leavesOut {σ : Nat → Nat × (Nat → Int32)} {yy : (Nat → Nat → Int64) × Bool × Nat × Nat} {m : Nat → Nat → Int32} {W : Nat → Int32} {t : Nat} {l : Nat} {d : Nat} (hd : 3 ≤ d + 1) (ht : t < 4) (hQ : W (376 + 103 * t + 10) = Int32.ofNat (nv W (376 + 103 * t + 10))) (hQ4 : nv W (376 + 103 * t + 10) < 4) : zEv σ (d + 1) 1826 0 [some (.ref 137), some (.int (Int32.ofNat t)), some (.int (Int32.ofNat l))] [] (zS1, zrow m 138 W, yy) (.inl none) (zS1, zrow m 138 ((q_leavesOut W t l)), yy) := by
  refine zeP rfl rfl ?_
  refine zeGR rfl rfl zS137 rfl rfl ?_
  refine zeP rfl rfl ?_
  refine zeKn (c := 11) rfl rfl rfl ?_
  refine zeP rfl rfl ?_
  refine zeP rfl rfl ?_
  refine zeKn (c := 10) rfl rfl rfl ?_
  refine zeCF rfl rfl rfl rfl rfl rfl (c_of (m := m) (W := W) (t := t) (k := 10) (by first | assumption | omega)) (by omega) ?_
  dsimp only [Option.toList, List.cons_append, List.nil_append]
  rw [show q_of W t 10 = Int32.ofNat (nv W (376 + 103 * t + 10)) from hQ]
  refine zeAdd rfl ?_
  refine zeCF rfl rfl rfl rfl rfl rfl (c_at (m := m) (W := W) (t := t) (k := (11 + (nv W (376 + 103 * t + 10)))) ) (by omega) ?_
  dsimp only [Option.toList, List.cons_append, List.nil_append]
  refine zeP rfl rfl ?_
  refine zeWS (k := (376 + 103 * t + ((11 + (nv W (376 + 103 * t + 10)))))) rfl (by omega) ?_
  refine zeP rfl rfl ?_
  refine zeGR rfl rfl zS137 rfl rfl ?_
  refine zeP rfl rfl ?_
  refine zeKn (c := 10) rfl rfl rfl ?_
  refine zeCF rfl rfl rfl rfl rfl rfl (c_at (m := m) (W := (upd W (376 + 103 * t + ((11 + (nv W (376 + 103 * t + 10))))) (Int32.ofNat l))) (t := t) (k := 10) ) (by omega) ?_
  dsimp only [Option.toList, List.cons_append, List.nil_append]
  refine zeP rfl rfl ?_
  refine zeWL (k := (376 + 103 * t + 10)) rfl (by omega) ?_
  refine zeKn (c := 1) rfl rfl rfl ?_
  refine zeP rfl rfl ?_
  refine zeWS (k := (376 + 103 * t + 10)) rfl (by omega) ?_
  exact zeRe rfl rfl rfl rfl (by rfl) (by rfl)
theorem c_leavesOut {σ : Nat → Nat × (Nat → Int32)} {yy : (Nat → Nat → Int64) × Bool × Nat × Nat} {m : Nat → Nat → Int32} {W : Nat → Int32} {t : Nat} {l : Nat} (ht : t < 4) (hQ : W (376 + 103 * t + 10) = Int32.ofNat (nv W (376 + 103 * t + 10))) (hQ4 : nv W (376 + 103 * t + 10) < 4) : zF σ 3 1826 [.ref 137, .int (Int32.ofNat t), .int (Int32.ofNat l)] (zS1, zrow m 138 W, yy) (.inl none) (zS1, zrow m 138 ((q_leavesOut W t l)), yy) := by
  intro d hd
  obtain ⟨d, rfl⟩ : ∃ k, d = k + 1 := ⟨d - 1, by omega⟩
  exact p_leavesOut hd ht hQ hQ4
def q_works (W : Nat → Int32) (t : Nat) (n : Int32) : Int32 × (Nat → Int32) := (bif zc2 .ge (q_of ((upd W (376 + 103 * t + 21) ((W (376 + 103 * t + 21)) + (Int32.ofNat 1)))) t 21) n then ((Int32.ofNat 1), (upd ((upd W (376 + 103 * t + 21) ((W (376 + 103 * t + 21)) + (Int32.ofNat 1)))) (376 + 103 * t + 21) (Int32.ofNat 0))) else ((Int32.ofNat 0), (upd W (376 + 103 * t + 21) ((W (376 + 103 * t + 21)) + (Int32.ofNat 1)))))
theorem p_works {σ : Nat → Nat × (Nat → Int32)} {yy : (Nat → Nat → Int64) × Bool × Nat × Nat} {m : Nat → Nat → Int32} {W : Nat → Int32} {t : Nat} {n : Int32} {d : Nat} (hd : 3 ≤ d + 1) (ht : t < 4) : zEv σ (d + 1) 1832 0 [some (.ref 137), some (.int (Int32.ofNat t)), some (.int n)] [] (zS1, zrow m 138 W, yy) (.inl (some (.int (q_works W t n).1))) (zS1, zrow m 138 ((q_works W t n).2), yy) := by
  refine zeP rfl rfl ?_
  refine zeGR rfl rfl zS137 rfl rfl ?_
  refine zeP rfl rfl ?_
  refine zeKn (c := 21) rfl rfl rfl ?_
  refine zeCF rfl rfl rfl rfl rfl rfl (c_at (m := m) (W := W) (t := t) (k := 21) ) (by omega) ?_
  dsimp only [Option.toList, List.cons_append, List.nil_append]
  refine zeP rfl rfl ?_
  refine zeWL (k := (376 + 103 * t + 21)) rfl (by omega) ?_
  refine zeKn (c := 1) rfl rfl rfl ?_
  refine zeP rfl rfl ?_
  refine zeWS (k := (376 + 103 * t + 21)) rfl (by omega) ?_
  refine zeP rfl rfl ?_
  refine zeP rfl rfl ?_
  refine zeKn (c := 21) rfl rfl rfl ?_
  refine zeCF rfl rfl rfl rfl rfl rfl (c_of (m := m) (W := (upd W (376 + 103 * t + 21) ((W (376 + 103 * t + 21)) + (Int32.ofNat 1)))) (t := t) (k := 21) (by first | assumption | omega)) (by omega) ?_
  dsimp only [Option.toList, List.cons_append, List.nil_append]
  refine zeP rfl rfl ?_
  refine zeB2 rfl rfl (fun h1 => ?_) (fun h1 => ?_)
  · refine zeP rfl rfl ?_
    refine zeGR rfl rfl zS137 rfl rfl ?_
    refine zeP rfl rfl ?_
    refine zeKn (c := 21) rfl rfl rfl ?_
    refine zeCF rfl rfl rfl rfl rfl rfl (c_at (m := m) (W := (upd W (376 + 103 * t + 21) ((W (376 + 103 * t + 21)) + (Int32.ofNat 1)))) (t := t) (k := 21) ) (by omega) ?_
    dsimp only [Option.toList, List.cons_append, List.nil_append]
    refine zeKn (c := 0) rfl rfl rfl ?_
    refine zeWS (k := (376 + 103 * t + 21)) rfl (by omega) ?_
    refine zeKn (c := 1) rfl rfl rfl ?_
    exact zeRe rfl rfl rfl rfl (by simp only [q_works, h1, cond_true, cond_false] <;> rfl) (by simp only [q_works, h1, cond_true, cond_false] <;> rfl)
  · refine zeKn (c := 0) rfl rfl rfl ?_
    exact zeRe rfl rfl rfl rfl (by simp only [q_works, h1, cond_true, cond_false] <;> rfl) (by simp only [q_works, h1, cond_true, cond_false] <;> rfl)
theorem c_works {σ : Nat → Nat × (Nat → Int32)} {yy : (Nat → Nat → Int64) × Bool × Nat × Nat} {m : Nat → Nat → Int32} {W : Nat → Int32} {t : Nat} {n : Int32} (ht : t < 4) : zF σ 3 1832 [.ref 137, .int (Int32.ofNat t), .int n] (zS1, zrow m 138 W, yy) (.inl (some (.int (q_works W t n).1))) (zS1, zrow m 138 ((q_works W t n).2), yy) := by
  intro d hd
  obtain ⟨d, rfl⟩ : ∃ k, d = k + 1 := ⟨d - 1, by omega⟩
  exact p_works hd ht
