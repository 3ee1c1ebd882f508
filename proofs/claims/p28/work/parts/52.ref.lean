theorem zl60 {W : Nat → Int32} (h : W 15 = Int32.ofNat 60) : upd W 15 (W 15 - Int32.ofNat 1) 15 = Int32.ofNat (nv (upd W 15 (W 15 - Int32.ofNat 1)) 15) ∧ nv (upd W 15 (W 15 - Int32.ofNat 1)) 15 < 60 := by
  unfold nv
  rw [upd_at, h]
  decide
theorem znelt {W : Nat → Int32} {k b : Nat} (hb : b < 2147483648) (h : W k = Int32.ofNat (nv W k)) (hle : nv W k ≤ b) (hc : zc2 .ne (W k) (Int32.ofNat b) = true) : nv W k < b := by
  have h1 : ¬ W k = Int32.ofNat b := of_decide_eq_true hc
  have h2 : nv W k ≠ b := fun e => h1 (by rw [h, e])
  omega
theorem zeqn {W : Nat → Int32} {k b : Nat} (hc : zc2 .ne (W k) (Int32.ofNat b) = false) : W k = Int32.ofNat b := by
  have h1 := of_decide_eq_false hc
  exact Classical.byContradiction (fun q => h1 q)
def q_logsT (W : Nat → Int32) (t : Int32) (w : Int32) (v : Int32) : (Nat → Int32) := (upd ((upd ((upd ((upd ((upd W (136 + (4 * (nv W 15))) (W 11))) ((136 + (4 * (nv W 15))) + 1) t)) ((136 + (4 * (nv W 15))) + 2) w)) ((136 + (4 * (nv W 15))) + 3) v)) 15 ((((upd ((upd ((upd ((upd W (136 + (4 * (nv W 15))) (W 11))) ((136 + (4 * (nv W 15))) + 1) t)) ((136 + (4 * (nv W 15))) + 2) w)) ((136 + (4 * (nv W 15))) + 3) v)) 15) + (Int32.ofNat 1)))
theorem p_logsT {σ : Nat → Nat × (Nat → Int32)} {yy : (Nat → Nat → Int64) × Bool × Nat × Nat} {m : Nat → Nat → Int32} {W : Nat → Int32} {t : Int32} {w : Int32} {v : Int32} {x4 : Option Value} {d : Nat} (hd : 1 ≤ d + 1) (hC : W 15 = Int32.ofNat (nv W 15)) (hC60 : nv W 15 < 60) : zEv σ (d + 1) 1815 62 [some (.ref 137), some (.int t), some (.int w), some (.int v), x4] [] (zS1, zrow m 138 W, yy) (.inl none) (zS1, zrow m 138 ((q_logsT W t w v)), yy) := by
  refine zeKn (c := 136) rfl rfl rfl ?_
  refine zeKn (c := 4) rfl rfl rfl ?_
  refine zeP rfl rfl ?_
  refine zeGR rfl rfl zS137 rfl rfl ?_
  refine zeKn (c := 15) rfl rfl rfl ?_
  refine zeWL (k := 15) rfl (by omega) ?_
  rw [hC]
  refine zeMul rfl ?_
  refine zeAdd rfl ?_
  refine zeP rfl rfl ?_
  refine zeP rfl rfl ?_
  refine zeGR rfl rfl zS137 rfl rfl ?_
  refine zeP rfl rfl ?_
  refine zeP rfl rfl ?_
  refine zeGR rfl rfl zS137 rfl rfl ?_
  refine zeKn (c := 11) rfl rfl rfl ?_
  refine zeWL (k := 11) rfl (by omega) ?_
  refine zeWS (k := (136 + (4 * (nv W 15)))) rfl (by omega) ?_
  refine zeP rfl rfl ?_
  refine zeGR rfl rfl zS137 rfl rfl ?_
  refine zeP rfl rfl ?_
  refine zeKn (c := 1) rfl rfl rfl ?_
  refine zeAdd rfl ?_
  refine zeP rfl rfl ?_
  refine zeWS (k := ((136 + (4 * (nv W 15))) + 1)) rfl (by omega) ?_
  refine zeP rfl rfl ?_
  refine zeGR rfl rfl zS137 rfl rfl ?_
  refine zeP rfl rfl ?_
  refine zeKn (c := 2) rfl rfl rfl ?_
  refine zeAdd rfl ?_
  refine zeP rfl rfl ?_
  refine zeWS (k := ((136 + (4 * (nv W 15))) + 2)) rfl (by omega) ?_
  refine zeP rfl rfl ?_
  refine zeGR rfl rfl zS137 rfl rfl ?_
  refine zeP rfl rfl ?_
  refine zeKn (c := 3) rfl rfl rfl ?_
  refine zeAdd rfl ?_
  refine zeP rfl rfl ?_
  refine zeWS (k := ((136 + (4 * (nv W 15))) + 3)) rfl (by omega) ?_
  refine zeP rfl rfl ?_
  refine zeGR rfl rfl zS137 rfl rfl ?_
  refine zeKn (c := 15) rfl rfl rfl ?_
  refine zeP rfl rfl ?_
  refine zeWL (k := 15) rfl (by omega) ?_
  refine zeKn (c := 1) rfl rfl rfl ?_
  refine zeP rfl rfl ?_
  refine zeWS (k := 15) rfl (by omega) ?_
  exact zeRe rfl rfl rfl rfl (by rfl) (by rfl)
def l_logsL (t : Int32) (w : Int32) (v : Int32) : Nat → Nat → (Nat → Int32) → (Nat → Int32)
  | 0, k, W => (q_logsT ((upd W 15 ((W 15) - (Int32.ofNat 1)))) t w v)
  | n + 1, k, W => (l_logsL t w v n ((k + 1)) ((upd W (136 + k) (W (140 + k)))))
theorem w_logsL {σ : Nat → Nat × (Nat → Int32)} {yy : (Nat → Nat → Int64) × Bool × Nat × Nat} {m : Nat → Nat → Int32} {t : Int32} {w : Int32} {v : Int32} {d : Nat} (hd : 1 ≤ d + 1) : ∀ (n : Nat) (k : Nat) (W : Nat → Int32), k + n = 236 → W 15 = Int32.ofNat 60 → zEv σ (d + 1) 1815 15 [some (.ref 137), some (.int t), some (.int w), some (.int v), some (.int (Int32.ofNat k))] [] (zS1, zrow m 138 W, yy) (.inl none) (zS1, zrow m 138 ((l_logsL t w v n k W)), yy) := by
  intro n
  induction n with
  | zero =>
    intro k W hk h15
    refine zeP rfl rfl ?_
    refine zeKn (c := 236) rfl rfl rfl ?_
    refine zeT2 rfl rfl (zcge (by omega) (by omega) (by omega)) ?_
    refine zeP rfl rfl ?_
    refine zeGR rfl rfl zS137 rfl rfl ?_
    refine zeKn (c := 15) rfl rfl rfl ?_
    refine zeP rfl rfl ?_
    refine zeWL (k := 15) rfl (by omega) ?_
    refine zeKn (c := 1) rfl rfl rfl ?_
    refine zeP rfl rfl ?_
    refine zeWS (k := 15) rfl (by omega) ?_
    simp only [l_logsL, cond_true, cond_false]
    exact p_logsT (t := t) (w := w) (v := v) (x4 := some (.int (Int32.ofNat k))) (W := (upd W 15 ((W 15) - (Int32.ofNat 1)))) (m := m) (by omega) (zl60 h15).1 (zl60 h15).2
  | succ n ih =>
    intro k W hk h15
    refine zeP rfl rfl ?_
    refine zeKn (c := 236) rfl rfl rfl ?_
    refine zeF2 rfl rfl (zcge_f (by omega) (by omega) (by omega)) ?_
    refine zeP rfl rfl ?_
    refine zeGR rfl rfl zS137 rfl rfl ?_
    refine zeKn (c := 136) rfl rfl rfl ?_
    refine zeP rfl rfl ?_
    refine zeAdd rfl ?_
    refine zeP rfl rfl ?_
    refine zeGR rfl rfl zS137 rfl rfl ?_
    refine zeKn (c := 140) rfl rfl rfl ?_
    refine zeP rfl rfl ?_
    refine zeAdd rfl ?_
    refine zeWL (k := (140 + k)) rfl (by omega) ?_
    refine zeWS (k := (136 + k)) rfl (by omega) ?_
    refine zeInc rfl rfl ?_
    refine zeP rfl rfl ?_
    simp only [l_logsL, cond_true, cond_false]
    exact ih ((k + 1)) ((upd W (136 + k) (W (140 + k))))  (by omega) (by rw [upd_ne _ _ (by omega)]; exact h15)
def q_logs (W : Nat → Int32) (t : Int32) (w : Int32) (v : Int32) : (Nat → Int32) := (bif zc2 .ne (W 15) (Int32.ofNat 60) then (q_logsT W t w v) else (l_logsL t w v 236 0 W))
theorem p_logs {σ : Nat → Nat × (Nat → Int32)} {yy : (Nat → Nat → Int64) × Bool × Nat × Nat} {m : Nat → Nat → Int32} {W : Nat → Int32} {t : Int32} {w : Int32} {v : Int32} {d : Nat} (hd : 1 ≤ d + 1) (hC : W 15 = Int32.ofNat (nv W 15)) (hC60 : nv W 15 ≤ 60) : zEv σ (d + 1) 1815 0 [some (.ref 137), some (.int t), some (.int w), some (.int v), none] [] (zS1, zrow m 138 W, yy) (.inl none) (zS1, zrow m 138 ((q_logs W t w v)), yy) := by
  refine zeP rfl rfl ?_
  refine zeGR rfl rfl zS137 rfl rfl ?_
  refine zeKn (c := 15) rfl rfl rfl ?_
  refine zeWL (k := 15) rfl (by omega) ?_
  refine zeKn (c := 60) rfl rfl rfl ?_
  refine zeB2 rfl rfl (fun h1 => ?_) (fun h1 => ?_)
  · simp only [q_logs, h1, cond_true, cond_false]
    exact p_logsT (t := t) (w := w) (v := v) (x4 := none) (W := W) (m := m) (by omega) hC (znelt (by omega) hC hC60 h1)
  · refine zeKn (c := 0) rfl rfl rfl ?_
    refine zeP rfl rfl ?_
    simp only [q_logs, h1, cond_true, cond_false]
    exact w_logsL (t := t) (w := w) (v := v) (m := m) (by omega)  236 (0) W  (by omega) (zeqn h1)
theorem c_logs {σ : Nat → Nat × (Nat → Int32)} {yy : (Nat → Nat → Int64) × Bool × Nat × Nat} {m : Nat → Nat → Int32} {W : Nat → Int32} {t : Int32} {w : Int32} {v : Int32} (hC : W 15 = Int32.ofNat (nv W 15)) (hC60 : nv W 15 ≤ 60) : zF σ 1 1815 [.ref 137, .int t, .int w, .int v] (zS1, zrow m 138 W, yy) (.inl none) (zS1, zrow m 138 ((q_logs W t w v)), yy) := by
  intro d hd
  obtain ⟨d, rfl⟩ : ∃ k, d = k + 1 := ⟨d - 1, by omega⟩
  exact p_logs hd hC hC60
def q_falls (W : Nat → Int32) (t : Nat) (y : Nat) : (Nat → Int32) := (q_logs ((q_ends ((upd ((upd ((upd ((upd ((upd ((upd W (376 + 103 * t + 0) (q_of W t 18))) (376 + 103 * t + 1) (q_of ((upd W (376 + 103 * t + 0) (q_of W t 18))) t 19))) (376 + 103 * t + 21) (Int32.ofNat 0))) (376 + 103 * t + 3) ((((upd ((upd ((upd W (376 + 103 * t + 0) (q_of W t 18))) (376 + 103 * t + 1) (q_of ((upd W (376 + 103 * t + 0) (q_of W t 18))) t 19))) (376 + 103 * t + 21) (Int32.ofNat 0))) (376 + 103 * t + 3)) + (Int32.ofNat 1)))) (376 + 103 * t + ((5 + y))) ((((upd ((upd ((upd ((upd W (376 + 103 * t + 0) (q_of W t 18))) (376 + 103 * t + 1) (q_of ((upd W (376 + 103 * t + 0) (q_of W t 18))) t 19))) (376 + 103 * t + 21) (Int32.ofNat 0))) (376 + 103 * t + 3) ((((upd ((upd ((upd W (376 + 103 * t + 0) (q_of W t 18))) (376 + 103 * t + 1) (q_of ((upd W (376 + 103 * t + 0) (q_of W t 18))) t 19))) (376 + 103 * t + 21) (Int32.ofNat 0))) (376 + 103 * t + 3)) + (Int32.ofNat 1)))) (376 + 103 * t + ((5 + y)))) + (Int32.ofNat 1)))) (20 + (nv W (376 + 103 * t + 11))) (if (Int32.ofNat 0) < ((((upd ((upd ((upd ((upd ((upd W (376 + 103 * t + 0) (q_of W t 18))) (376 + 103 * t + 1) (q_of ((upd W (376 + 103 * t + 0) (q_of W t 18))) t 19))) (376 + 103 * t + 21) (Int32.ofNat 0))) (376 + 103 * t + 3) ((((upd ((upd ((upd W (376 + 103 * t + 0) (q_of W t 18))) (376 + 103 * t + 1) (q_of ((upd W (376 + 103 * t + 0) (q_of W t 18))) t 19))) (376 + 103 * t + 21) (Int32.ofNat 0))) (376 + 103 * t + 3)) + (Int32.ofNat 1)))) (376 + 103 * t + ((5 + y))) ((((upd ((upd ((upd ((upd W (376 + 103 * t + 0) (q_of W t 18))) (376 + 103 * t + 1) (q_of ((upd W (376 + 103 * t + 0) (q_of W t 18))) t 19))) (376 + 103 * t + 21) (Int32.ofNat 0))) (376 + 103 * t + 3) ((((upd ((upd ((upd W (376 + 103 * t + 0) (q_of W t 18))) (376 + 103 * t + 1) (q_of ((upd W (376 + 103 * t + 0) (q_of W t 18))) t 19))) (376 + 103 * t + 21) (Int32.ofNat 0))) (376 + 103 * t + 3)) + (Int32.ofNat 1)))) (376 + 103 * t + ((5 + y)))) + (Int32.ofNat 1)))) (20 + (nv W (376 + 103 * t + 11)))) - (((upd ((upd ((upd ((upd ((upd W (376 + 103 * t + 0) (q_of W t 18))) (376 + 103 * t + 1) (q_of ((upd W (376 + 103 * t + 0) (q_of W t 18))) t 19))) (376 + 103 * t + 21) (Int32.ofNat 0))) (376 + 103 * t + 3) ((((upd ((upd ((upd W (376 + 103 * t + 0) (q_of W t 18))) (376 + 103 * t + 1) (q_of ((upd W (376 + 103 * t + 0) (q_of W t 18))) t 19))) (376 + 103 * t + 21) (Int32.ofNat 0))) (376 + 103 * t + 3)) + (Int32.ofNat 1)))) (376 + 103 * t + ((5 + y))) ((((upd ((upd ((upd ((upd W (376 + 103 * t + 0) (q_of W t 18))) (376 + 103 * t + 1) (q_of ((upd W (376 + 103 * t + 0) (q_of W t 18))) t 19))) (376 + 103 * t + 21) (Int32.ofNat 0))) (376 + 103 * t + 3) ((((upd ((upd ((upd W (376 + 103 * t + 0) (q_of W t 18))) (376 + 103 * t + 1) (q_of ((upd W (376 + 103 * t + 0) (q_of W t 18))) t 19))) (376 + 103 * t + 21) (Int32.ofNat 0))) (376 + 103 * t + 3)) + (Int32.ofNat 1)))) (376 + 103 * t + ((5 + y)))) + (Int32.ofNat 1)))) 6)) then ((((upd ((upd ((upd ((upd ((upd W (376 + 103 * t + 0) (q_of W t 18))) (376 + 103 * t + 1) (q_of ((upd W (376 + 103 * t + 0) (q_of W t 18))) t 19))) (376 + 103 * t + 21) (Int32.ofNat 0))) (376 + 103 * t + 3) ((((upd ((upd ((upd W (376 + 103 * t + 0) (q_of W t 18))) (376 + 103 * t + 1) (q_of ((upd W (376 + 103 * t + 0) (q_of W t 18))) t 19))) (376 + 103 * t + 21) (Int32.ofNat 0))) (376 + 103 * t + 3)) + (Int32.ofNat 1)))) (376 + 103 * t + ((5 + y))) ((((upd ((upd ((upd ((upd W (376 + 103 * t + 0) (q_of W t 18))) (376 + 103 * t + 1) (q_of ((upd W (376 + 103 * t + 0) (q_of W t 18))) t 19))) (376 + 103 * t + 21) (Int32.ofNat 0))) (376 + 103 * t + 3) ((((upd ((upd ((upd W (376 + 103 * t + 0) (q_of W t 18))) (376 + 103 * t + 1) (q_of ((upd W (376 + 103 * t + 0) (q_of W t 18))) t 19))) (376 + 103 * t + 21) (Int32.ofNat 0))) (376 + 103 * t + 3)) + (Int32.ofNat 1)))) (376 + 103 * t + ((5 + y)))) + (Int32.ofNat 1)))) (20 + (nv W (376 + 103 * t + 11)))) - (((upd ((upd ((upd ((upd ((upd W (376 + 103 * t + 0) (q_of W t 18))) (376 + 103 * t + 1) (q_of ((upd W (376 + 103 * t + 0) (q_of W t 18))) t 19))) (376 + 103 * t + 21) (Int32.ofNat 0))) (376 + 103 * t + 3) ((((upd ((upd ((upd W (376 + 103 * t + 0) (q_of W t 18))) (376 + 103 * t + 1) (q_of ((upd W (376 + 103 * t + 0) (q_of W t 18))) t 19))) (376 + 103 * t + 21) (Int32.ofNat 0))) (376 + 103 * t + 3)) + (Int32.ofNat 1)))) (376 + 103 * t + ((5 + y))) ((((upd ((upd ((upd ((upd W (376 + 103 * t + 0) (q_of W t 18))) (376 + 103 * t + 1) (q_of ((upd W (376 + 103 * t + 0) (q_of W t 18))) t 19))) (376 + 103 * t + 21) (Int32.ofNat 0))) (376 + 103 * t + 3) ((((upd ((upd ((upd W (376 + 103 * t + 0) (q_of W t 18))) (376 + 103 * t + 1) (q_of ((upd W (376 + 103 * t + 0) (q_of W t 18))) t 19))) (376 + 103 * t + 21) (Int32.ofNat 0))) (376 + 103 * t + 3)) + (Int32.ofNat 1)))) (376 + 103 * t + ((5 + y)))) + (Int32.ofNat 1)))) 6)) else (Int32.ofNat 0)))) t)) ((Int32.ofNat t)) ((Int32.ofNat 2)) ((Int32.ofNat y)))
theorem p_falls {σ : Nat → Nat × (Nat → Int32)} {yy : (Nat → Nat → Int64) × Bool × Nat × Nat} {m : Nat → Nat → Int32} {W : Nat → Int32} {t : Nat} {y : Nat} {d : Nat} (hd : 3 ≤ d + 1) (ht : t < 4) (hy : y < 5) (hL : W (376 + 103 * t + 11) = Int32.ofNat (nv W (376 + 103 * t + 11))) (hL4 : nv W (376 + 103 * t + 11) < 4) (hC : W 15 = Int32.ofNat (nv W 15)) (hC60 : nv W 15 ≤ 60) : zEv σ (d + 1) 1817 0 [some (.ref 137), some (.int (Int32.ofNat t)), some (.int (Int32.ofNat y)), none] [] (zS1, zrow m 138 W, yy) (.inl none) (zS1, zrow m 138 ((q_falls W t y)), yy) := by
  refine zeP rfl rfl ?_
  refine zeP rfl rfl ?_
  refine zeKn (c := 11) rfl rfl rfl ?_
  refine zeCF rfl rfl rfl rfl rfl rfl (c_of (m := m) (W := W) (t := t) (k := 11) (by first | assumption | omega)) (by omega) ?_
  dsimp only [Option.toList, List.cons_append, List.nil_append]
  rw [show q_of W t 11 = Int32.ofNat (nv W (376 + 103 * t + 11)) from hL]
  refine zeP rfl rfl ?_
  refine zeP rfl rfl ?_
  refine zeGR rfl rfl zS137 rfl rfl ?_
  refine zeP rfl rfl ?_
  refine zeKn (c := 0) rfl rfl rfl ?_
  refine zeCF rfl rfl rfl rfl rfl rfl (c_at (m := m) (W := W) (t := t) (k := 0) ) (by omega) ?_
  dsimp only [Option.toList, List.cons_append, List.nil_append]
  refine zeP rfl rfl ?_
  refine zeP rfl rfl ?_
  refine zeKn (c := 18) rfl rfl rfl ?_
  refine zeCF rfl rfl rfl rfl rfl rfl (c_of (m := m) (W := W) (t := t) (k := 18) (by first | assumption | omega)) (by omega) ?_
  dsimp only [Option.toList, List.cons_append, List.nil_append]
  refine zeWS (k := (376 + 103 * t + 0)) rfl (by omega) ?_
  refine zeP rfl rfl ?_
  refine zeGR rfl rfl zS137 rfl rfl ?_
  refine zeP rfl rfl ?_
  refine zeKn (c := 1) rfl rfl rfl ?_
  refine zeCF rfl rfl rfl rfl rfl rfl (c_at (m := m) (W := (upd W (376 + 103 * t + 0) (q_of W t 18))) (t := t) (k := 1) ) (by omega) ?_
  dsimp only [Option.toList, List.cons_append, List.nil_append]
  refine zeP rfl rfl ?_
  refine zeP rfl rfl ?_
  refine zeKn (c := 19) rfl rfl rfl ?_
  refine zeCF rfl rfl rfl rfl rfl rfl (c_of (m := m) (W := (upd W (376 + 103 * t + 0) (q_of W t 18))) (t := t) (k := 19) (by first | assumption | omega)) (by omega) ?_
  dsimp only [Option.toList, List.cons_append, List.nil_append]
  refine zeWS (k := (376 + 103 * t + 1)) rfl (by omega) ?_
  refine zeP rfl rfl ?_
  refine zeGR rfl rfl zS137 rfl rfl ?_
  refine zeP rfl rfl ?_
  refine zeKn (c := 21) rfl rfl rfl ?_
  refine zeCF rfl rfl rfl rfl rfl rfl (c_at (m := m) (W := (upd ((upd W (376 + 103 * t + 0) (q_of W t 18))) (376 + 103 * t + 1) (q_of ((upd W (376 + 103 * t + 0) (q_of W t 18))) t 19))) (t := t) (k := 21) ) (by omega) ?_
  dsimp only [Option.toList, List.cons_append, List.nil_append]
  refine zeKn (c := 0) rfl rfl rfl ?_
  refine zeWS (k := (376 + 103 * t + 21)) rfl (by omega) ?_
  refine zeP rfl rfl ?_
  refine zeGR rfl rfl zS137 rfl rfl ?_
  refine zeP rfl rfl ?_
  refine zeKn (c := 3) rfl rfl rfl ?_
  refine zeCF rfl rfl rfl rfl rfl rfl (c_at (m := m) (W := (upd ((upd ((upd W (376 + 103 * t + 0) (q_of W t 18))) (376 + 103 * t + 1) (q_of ((upd W (376 + 103 * t + 0) (q_of W t 18))) t 19))) (376 + 103 * t + 21) (Int32.ofNat 0))) (t := t) (k := 3) ) (by omega) ?_
  dsimp only [Option.toList, List.cons_append, List.nil_append]
  refine zeP rfl rfl ?_
  refine zeWL (k := (376 + 103 * t + 3)) rfl (by omega) ?_
  refine zeKn (c := 1) rfl rfl rfl ?_
  refine zeP rfl rfl ?_
  refine zeWS (k := (376 + 103 * t + 3)) rfl (by omega) ?_
  refine zeP rfl rfl ?_
  refine zeGR rfl rfl zS137 rfl rfl ?_
  refine zeP rfl rfl ?_
  refine zeKn (c := 5) rfl rfl rfl ?_
  refine zeP rfl rfl ?_
  refine zeAdd rfl ?_
  refine zeCF rfl rfl rfl rfl rfl rfl (c_at (m := m) (W := (upd ((upd ((upd ((upd W (376 + 103 * t + 0) (q_of W t 18))) (376 + 103 * t + 1) (q_of ((upd W (376 + 103 * t + 0) (q_of W t 18))) t 19))) (376 + 103 * t + 21) (Int32.ofNat 0))) (376 + 103 * t + 3) ((((upd ((upd ((upd W (376 + 103 * t + 0) (q_of W t 18))) (376 + 103 * t + 1) (q_of ((upd W (376 + 103 * t + 0) (q_of W t 18))) t 19))) (376 + 103 * t + 21) (Int32.ofNat 0))) (376 + 103 * t + 3)) + (Int32.ofNat 1)))) (t := t) (k := (5 + y)) ) (by omega) ?_
  dsimp only [Option.toList, List.cons_append, List.nil_append]
  refine zeP rfl rfl ?_
  refine zeWL (k := (376 + 103 * t + ((5 + y)))) rfl (by omega) ?_
  refine zeKn (c := 1) rfl rfl rfl ?_
  refine zeP rfl rfl ?_
  refine zeWS (k := (376 + 103 * t + ((5 + y)))) rfl (by omega) ?_
  refine zeP rfl rfl ?_
  refine zeGR rfl rfl zS137 rfl rfl ?_
  refine zeKn (c := 20) rfl rfl rfl ?_
  refine zeP rfl rfl ?_
  refine zeAdd rfl ?_
  refine zeKn (c := 0) rfl rfl rfl ?_
  refine zeP rfl rfl ?_
  refine zeGR rfl rfl zS137 rfl rfl ?_
  refine zeKn (c := 20) rfl rfl rfl ?_
  refine zeP rfl rfl ?_
  refine zeAdd rfl ?_
  refine zeWL (k := (20 + (nv W (376 + 103 * t + 11)))) rfl (by omega) ?_
  refine zeP rfl rfl ?_
  refine zeGR rfl rfl zS137 rfl rfl ?_
  refine zeKn (c := 6) rfl rfl rfl ?_
  refine zeWL (k := 6) rfl (by omega) ?_
  refine zeP rfl rfl ?_
  refine zeM rfl rfl rfl rfl rfl rfl rfl ?_
  refine zeWS (k := (20 + (nv W (376 + 103 * t + 11)))) rfl (by omega) ?_
  refine zeP rfl rfl ?_
  refine zeP rfl rfl ?_
  refine zeCF rfl rfl rfl rfl rfl rfl (c_ends (m := m) (W := (upd ((upd ((upd ((upd ((upd ((upd W (376 + 103 * t + 0) (q_of W t 18))) (376 + 103 * t + 1) (q_of ((upd W (376 + 103 * t + 0) (q_of W t 18))) t 19))) (376 + 103 * t + 21) (Int32.ofNat 0))) (376 + 103 * t + 3) ((((upd ((upd ((upd W (376 + 103 * t + 0) (q_of W t 18))) (376 + 103 * t + 1) (q_of ((upd W (376 + 103 * t + 0) (q_of W t 18))) t 19))) (376 + 103 * t + 21) (Int32.ofNat 0))) (376 + 103 * t + 3)) + (Int32.ofNat 1)))) (376 + 103 * t + ((5 + y))) ((((upd ((upd ((upd ((upd W (376 + 103 * t + 0) (q_of W t 18))) (376 + 103 * t + 1) (q_of ((upd W (376 + 103 * t + 0) (q_of W t 18))) t 19))) (376 + 103 * t + 21) (Int32.ofNat 0))) (376 + 103 * t + 3) ((((upd ((upd ((upd W (376 + 103 * t + 0) (q_of W t 18))) (376 + 103 * t + 1) (q_of ((upd W (376 + 103 * t + 0) (q_of W t 18))) t 19))) (376 + 103 * t + 21) (Int32.ofNat 0))) (376 + 103 * t + 3)) + (Int32.ofNat 1)))) (376 + 103 * t + ((5 + y)))) + (Int32.ofNat 1)))) (20 + (nv W (376 + 103 * t + 11))) (if (Int32.ofNat 0) < ((((upd ((upd ((upd ((upd ((upd W (376 + 103 * t + 0) (q_of W t 18))) (376 + 103 * t + 1) (q_of ((upd W (376 + 103 * t + 0) (q_of W t 18))) t 19))) (376 + 103 * t + 21) (Int32.ofNat 0))) (376 + 103 * t + 3) ((((upd ((upd ((upd W (376 + 103 * t + 0) (q_of W t 18))) (376 + 103 * t + 1) (q_of ((upd W (376 + 103 * t + 0) (q_of W t 18))) t 19))) (376 + 103 * t + 21) (Int32.ofNat 0))) (376 + 103 * t + 3)) + (Int32.ofNat 1)))) (376 + 103 * t + ((5 + y))) ((((upd ((upd ((upd ((upd W (376 + 103 * t + 0) (q_of W t 18))) (376 + 103 * t + 1) (q_of ((upd W (376 + 103 * t + 0) (q_of W t 18))) t 19))) (376 + 103 * t + 21) (Int32.ofNat 0))) (376 + 103 * t + 3) ((((upd ((upd ((upd W (376 + 103 * t + 0) (q_of W t 18))) (376 + 103 * t + 1) (q_of ((upd W (376 + 103 * t + 0) (q_of W t 18))) t 19))) (376 + 103 * t + 21) (Int32.ofNat 0))) (376 + 103 * t + 3)) + (Int32.ofNat 1)))) (376 + 103 * t + ((5 + y)))) + (Int32.ofNat 1)))) (20 + (nv W (376 + 103 * t + 11)))) - (((upd ((upd ((upd ((upd ((upd W (376 + 103 * t + 0) (q_of W t 18))) (376 + 103 * t + 1) (q_of ((upd W (376 + 103 * t + 0) (q_of W t 18))) t 19))) (376 + 103 * t + 21) (Int32.ofNat 0))) (376 + 103 * t + 3) ((((upd ((upd ((upd W (376 + 103 * t + 0) (q_of W t 18))) (376 + 103 * t + 1) (q_of ((upd W (376 + 103 * t + 0) (q_of W t 18))) t 19))) (376 + 103 * t + 21) (Int32.ofNat 0))) (376 + 103 * t + 3)) + (Int32.ofNat 1)))) (376 + 103 * t + ((5 + y))) ((((upd ((upd ((upd ((upd W (376 + 103 * t + 0) (q_of W t 18))) (376 + 103 * t + 1) (q_of ((upd W (376 + 103 * t + 0) (q_of W t 18))) t 19))) (376 + 103 * t + 21) (Int32.ofNat 0))) (376 + 103 * t + 3) ((((upd ((upd ((upd W (376 + 103 * t + 0) (q_of W t 18))) (376 + 103 * t + 1) (q_of ((upd W (376 + 103 * t + 0) (q_of W t 18))) t 19))) (376 + 103 * t + 21) (Int32.ofNat 0))) (376 + 103 * t + 3)) + (Int32.ofNat 1)))) (376 + 103 * t + ((5 + y)))) + (Int32.ofNat 1)))) 6)) then ((((upd ((upd ((upd ((upd ((upd W (376 + 103 * t + 0) (q_of W t 18))) (376 + 103 * t + 1) (q_of ((upd W (376 + 103 * t + 0) (q_of W t 18))) t 19))) (376 + 103 * t + 21) (Int32.ofNat 0))) (376 + 103 * t + 3) ((((upd ((upd ((upd W (376 + 103 * t + 0) (q_of W t 18))) (376 + 103 * t + 1) (q_of ((upd W (376 + 103 * t + 0) (q_of W t 18))) t 19))) (376 + 103 * t + 21) (Int32.ofNat 0))) (376 + 103 * t + 3)) + (Int32.ofNat 1)))) (376 + 103 * t + ((5 + y))) ((((upd ((upd ((upd ((upd W (376 + 103 * t + 0) (q_of W t 18))) (376 + 103 * t + 1) (q_of ((upd W (376 + 103 * t + 0) (q_of W t 18))) t 19))) (376 + 103 * t + 21) (Int32.ofNat 0))) (376 + 103 * t + 3) ((((upd ((upd ((upd W (376 + 103 * t + 0) (q_of W t 18))) (376 + 103 * t + 1) (q_of ((upd W (376 + 103 * t + 0) (q_of W t 18))) t 19))) (376 + 103 * t + 21) (Int32.ofNat 0))) (376 + 103 * t + 3)) + (Int32.ofNat 1)))) (376 + 103 * t + ((5 + y)))) + (Int32.ofNat 1)))) (20 + (nv W (376 + 103 * t + 11)))) - (((upd ((upd ((upd ((upd ((upd W (376 + 103 * t + 0) (q_of W t 18))) (376 + 103 * t + 1) (q_of ((upd W (376 + 103 * t + 0) (q_of W t 18))) t 19))) (376 + 103 * t + 21) (Int32.ofNat 0))) (376 + 103 * t + 3) ((((upd ((upd ((upd W (376 + 103 * t + 0) (q_of W t 18))) (376 + 103 * t + 1) (q_of ((upd W (376 + 103 * t + 0) (q_of W t 18))) t 19))) (376 + 103 * t + 21) (Int32.ofNat 0))) (376 + 103 * t + 3)) + (Int32.ofNat 1)))) (376 + 103 * t + ((5 + y))) ((((upd ((upd ((upd ((upd W (376 + 103 * t + 0) (q_of W t 18))) (376 + 103 * t + 1) (q_of ((upd W (376 + 103 * t + 0) (q_of W t 18))) t 19))) (376 + 103 * t + 21) (Int32.ofNat 0))) (376 + 103 * t + 3) ((((upd ((upd ((upd W (376 + 103 * t + 0) (q_of W t 18))) (376 + 103 * t + 1) (q_of ((upd W (376 + 103 * t + 0) (q_of W t 18))) t 19))) (376 + 103 * t + 21) (Int32.ofNat 0))) (376 + 103 * t + 3)) + (Int32.ofNat 1)))) (376 + 103 * t + ((5 + y)))) + (Int32.ofNat 1)))) 6)) else (Int32.ofNat 0)))) (t := t) (by first | assumption | omega)) (by omega) ?_
  dsimp only [Option.toList, List.cons_append, List.nil_append]
  refine zeP rfl rfl ?_
  refine zeP rfl rfl ?_
  refine zeKn (c := 2) rfl rfl rfl ?_
  refine zeP rfl rfl ?_
  refine zeCF rfl rfl rfl rfl rfl rfl (c_logs (m := m) (W := (q_ends ((upd ((upd ((upd ((upd ((upd ((upd W (376 + 103 * t + 0) (q_of W t 18))) (376 + 103 * t + 1) (q_of ((upd W (376 + 103 * t + 0) (q_of W t 18))) t 19))) (376 + 103 * t + 21) (Int32.ofNat 0))) (376 + 103 * t + 3) ((((upd ((upd ((upd W (376 + 103 * t + 0) (q_of W t 18))) (376 + 103 * t + 1) (q_of ((upd W (376 + 103 * t + 0) (q_of W t 18))) t 19))) (376 + 103 * t + 21) (Int32.ofNat 0))) (376 + 103 * t + 3)) + (Int32.ofNat 1)))) (376 + 103 * t + ((5 + y))) ((((upd ((upd ((upd ((upd W (376 + 103 * t + 0) (q_of W t 18))) (376 + 103 * t + 1) (q_of ((upd W (376 + 103 * t + 0) (q_of W t 18))) t 19))) (376 + 103 * t + 21) (Int32.ofNat 0))) (376 + 103 * t + 3) ((((upd ((upd ((upd W (376 + 103 * t + 0) (q_of W t 18))) (376 + 103 * t + 1) (q_of ((upd W (376 + 103 * t + 0) (q_of W t 18))) t 19))) (376 + 103 * t + 21) (Int32.ofNat 0))) (376 + 103 * t + 3)) + (Int32.ofNat 1)))) (376 + 103 * t + ((5 + y)))) + (Int32.ofNat 1)))) (20 + (nv W (376 + 103 * t + 11))) (if (Int32.ofNat 0) < ((((upd ((upd ((upd ((upd ((upd W (376 + 103 * t + 0) (q_of W t 18))) (376 + 103 * t + 1) (q_of ((upd W (376 + 103 * t + 0) (q_of W t 18))) t 19))) (376 + 103 * t + 21) (Int32.ofNat 0))) (376 + 103 * t + 3) ((((upd ((upd ((upd W (376 + 103 * t + 0) (q_of W t 18))) (376 + 103 * t + 1) (q_of ((upd W (376 + 103 * t + 0) (q_of W t 18))) t 19))) (376 + 103 * t + 21) (Int32.ofNat 0))) (376 + 103 * t + 3)) + (Int32.ofNat 1)))) (376 + 103 * t + ((5 + y))) ((((upd ((upd ((upd ((upd W (376 + 103 * t + 0) (q_of W t 18))) (376 + 103 * t + 1) (q_of ((upd W (376 + 103 * t + 0) (q_of W t 18))) t 19))) (376 + 103 * t + 21) (Int32.ofNat 0))) (376 + 103 * t + 3) ((((upd ((upd ((upd W (376 + 103 * t + 0) (q_of W t 18))) (376 + 103 * t + 1) (q_of ((upd W (376 + 103 * t + 0) (q_of W t 18))) t 19))) (376 + 103 * t + 21) (Int32.ofNat 0))) (376 + 103 * t + 3)) + (Int32.ofNat 1)))) (376 + 103 * t + ((5 + y)))) + (Int32.ofNat 1)))) (20 + (nv W (376 + 103 * t + 11)))) - (((upd ((upd ((upd ((upd ((upd W (376 + 103 * t + 0) (q_of W t 18))) (376 + 103 * t + 1) (q_of ((upd W (376 + 103 * t + 0) (q_of W t 18))) t 19))) (376 + 103 * t + 21) (Int32.ofNat 0))) (376 + 103 * t + 3) ((((upd ((upd ((upd W (376 + 103 * t + 0) (q_of W t 18))) (376 + 103 * t + 1) (q_of ((upd W (376 + 103 * t + 0) (q_of W t 18))) t 19))) (376 + 103 * t + 21) (Int32.ofNat 0))) (376 + 103 * t + 3)) + (Int32.ofNat 1)))) (376 + 103 * t + ((5 + y))) ((((upd ((upd ((upd ((upd W (376 + 103 * t + 0) (q_of W t 18))) (376 + 103 * t + 1) (q_of ((upd W (376 + 103 * t + 0) (q_of W t 18))) t 19))) (376 + 103 * t + 21) (Int32.ofNat 0))) (376 + 103 * t + 3) ((((upd ((upd ((upd W (376 + 103 * t + 0) (q_of W t 18))) (376 + 103 * t + 1) (q_of ((upd W (376 + 103 * t + 0) (q_of W t 18))) t 19))) (376 + 103 * t + 21) (Int32.ofNat 0))) (376 + 103 * t + 3)) + (Int32.ofNat 1)))) (376 + 103 * t + ((5 + y)))) + (Int32.ofNat 1)))) 6)) then ((((upd ((upd ((upd ((upd ((upd W (376 + 103 * t + 0) (q_of W t 18))) (376 + 103 * t + 1) (q_of ((upd W (376 + 103 * t + 0) (q_of W t 18))) t 19))) (376 + 103 * t + 21) (Int32.ofNat 0))) (376 + 103 * t + 3) ((((upd ((upd ((upd W (376 + 103 * t + 0) (q_of W t 18))) (376 + 103 * t + 1) (q_of ((upd W (376 + 103 * t + 0) (q_of W t 18))) t 19))) (376 + 103 * t + 21) (Int32.ofNat 0))) (376 + 103 * t + 3)) + (Int32.ofNat 1)))) (376 + 103 * t + ((5 + y))) ((((upd ((upd ((upd ((upd W (376 + 103 * t + 0) (q_of W t 18))) (376 + 103 * t + 1) (q_of ((upd W (376 + 103 * t + 0) (q_of W t 18))) t 19))) (376 + 103 * t + 21) (Int32.ofNat 0))) (376 + 103 * t + 3) ((((upd ((upd ((upd W (376 + 103 * t + 0) (q_of W t 18))) (376 + 103 * t + 1) (q_of ((upd W (376 + 103 * t + 0) (q_of W t 18))) t 19))) (376 + 103 * t + 21) (Int32.ofNat 0))) (376 + 103 * t + 3)) + (Int32.ofNat 1)))) (376 + 103 * t + ((5 + y)))) + (Int32.ofNat 1)))) (20 + (nv W (376 + 103 * t + 11)))) - (((upd ((upd ((upd ((upd ((upd W (376 + 103 * t + 0) (q_of W t 18))) (376 + 103 * t + 1) (q_of ((upd W (376 + 103 * t + 0) (q_of W t 18))) t 19))) (376 + 103 * t + 21) (Int32.ofNat 0))) (376 + 103 * t + 3) ((((upd ((upd ((upd W (376 + 103 * t + 0) (q_of W t 18))) (376 + 103 * t + 1) (q_of ((upd W (376 + 103 * t + 0) (q_of W t 18))) t 19))) (376 + 103 * t + 21) (Int32.ofNat 0))) (376 + 103 * t + 3)) + (Int32.ofNat 1)))) (376 + 103 * t + ((5 + y))) ((((upd ((upd ((upd ((upd W (376 + 103 * t + 0) (q_of W t 18))) (376 + 103 * t + 1) (q_of ((upd W (376 + 103 * t + 0) (q_of W t 18))) t 19))) (376 + 103 * t + 21) (Int32.ofNat 0))) (376 + 103 * t + 3) ((((upd ((upd ((upd W (376 + 103 * t + 0) (q_of W t 18))) (376 + 103 * t + 1) (q_of ((upd W (376 + 103 * t + 0) (q_of W t 18))) t 19))) (376 + 103 * t + 21) (Int32.ofNat 0))) (376 + 103 * t + 3)) + (Int32.ofNat 1)))) (376 + 103 * t + ((5 + y)))) + (Int32.ofNat 1)))) 6)) else (Int32.ofNat 0)))) t)) (t := (Int32.ofNat t)) (w := (Int32.ofNat 2)) (v := (Int32.ofNat y)) (by simp (disch := omega) only [nv, q_ends, upd_ne]; first | exact hC | exact hC60) (by simp (disch := omega) only [nv, q_ends, upd_ne]; first | exact hC | exact hC60)) (by omega) ?_
  dsimp only [Option.toList, List.cons_append, List.nil_append]
  exact zeRe rfl rfl rfl rfl (by rfl) (by rfl)
theorem c_falls {σ : Nat → Nat × (Nat → Int32)} {yy : (Nat → Nat → Int64) × Bool × Nat × Nat} {m : Nat → Nat → Int32} {W : Nat → Int32} {t : Nat} {y : Nat} (ht : t < 4) (hy : y < 5) (hL : W (376 + 103 * t + 11) = Int32.ofNat (nv W (376 + 103 * t + 11))) (hL4 : nv W (376 + 103 * t + 11) < 4) (hC : W 15 = Int32.ofNat (nv W 15)) (hC60 : nv W 15 ≤ 60) : zF σ 3 1817 [.ref 137, .int (Int32.ofNat t), .int (Int32.ofNat y)] (zS1, zrow m 138 W, yy) (.inl none) (zS1, zrow m 138 ((q_falls W t y)), yy) := by
  intro d hd
  obtain ⟨d, rfl⟩ : ∃ k, d = k + 1 := ⟨d - 1, by omega⟩
  exact p_falls hd ht hy hL hL4 hC hC60
