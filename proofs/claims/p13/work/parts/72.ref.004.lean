noncomputable def l_partsOf (W : Nat → Int32) (t : Nat) : Nat → Nat → Nat → Int32
  | 0, c, p => (Int32.ofNat c)
  | n + 1, c, p => (bif zc2 .ge (Int32.ofNat p) (Int32.ofNat (nv W (376 + 103 * t + 22))) then (Int32.ofNat c) else (l_partsOf W t n ((c + 1)) ((bpn W t p))))
theorem w_partsOf {σ : Nat → Nat × (Nat → Int32)} {yy : (Nat → Nat → Int64) × Bool × Nat × Nat} {m : Nat → Nat → Int32} {W : Nat → Int32} {t : Nat} {d : Nat} (hd : 6 ≤ d + 1) (hw : WG W) (ht : t < 4) (h24 : nv W (376 + 103 * t + 22) ≤ 24) : ∀ (n : Nat) (c : Nat) (p : Nat), nv W (376 + 103 * t + 22) ≤ p + n → p ≤ 24 → zEv σ (d + 1) 1900 4 [some (.ref 137), some (.int (Int32.ofNat t)), some (.int (Int32.ofNat c)), some (.int (Int32.ofNat p))] [] (zS1, zrow m 138 W, yy) (.inl (some (.int (l_partsOf W t n c p)))) (zS1, zrow m 138 W, yy) := by
  intro n
  induction n with
  | zero =>
    intro c p hk hp
    refine zeP rfl rfl ?_
    refine zeP rfl rfl ?_
    refine zeP rfl rfl ?_
    refine zeKn (c := 22) rfl rfl rfl ?_
    refine zeCF rfl rfl rfl rfl rfl rfl (c_of (m := m) (W := W) (t := t) (k := 22) (by first | assumption | omega)) (by omega) ?_
    dsimp only [Option.toList, List.cons_append, List.nil_append]
    rw [show q_of W t 22 = Int32.ofNat (nv W (376 + 103 * t + 22)) from (hw.2 t ht).2.2.2.1.1]
    refine zeT2 rfl rfl (zcge (by omega) (by omega) (by omega)) ?_
    refine zeP rfl rfl ?_
    exact zeRe rfl rfl rfl rfl (by rfl) (by rfl)
  | succ n ih =>
    intro c p hk hp
    refine zeP rfl rfl ?_
    refine zeP rfl rfl ?_
    refine zeP rfl rfl ?_
    refine zeKn (c := 22) rfl rfl rfl ?_
    refine zeCF rfl rfl rfl rfl rfl rfl (c_of (m := m) (W := W) (t := t) (k := 22) (by first | assumption | omega)) (by omega) ?_
    dsimp only [Option.toList, List.cons_append, List.nil_append]
    rw [show q_of W t 22 = Int32.ofNat (nv W (376 + 103 * t + 22)) from (hw.2 t ht).2.2.2.1.1]
    refine zeB2 rfl rfl (fun h1 => ?_) (fun h1 => ?_)
    · refine zeP rfl rfl ?_
      exact zeRe rfl rfl rfl rfl (by simp only [l_partsOf, h1, cond_true, cond_false] <;> rfl) (by simp only [l_partsOf, h1, cond_true, cond_false] <;> rfl)
    · refine zeInc rfl rfl ?_
      refine zeP rfl rfl ?_
      refine zeP rfl rfl ?_
      refine zeP rfl rfl ?_
      refine zeCF rfl rfl rfl rfl rfl rfl (c_behindPart (m := m) (W := W) (t := t) (p := p) hw ht (zge_lt (by omega) (by omega) (by assumption))) (by omega) ?_
      dsimp only [Option.toList, List.cons_append, List.nil_append]
      rw [(bp_n (p := p) hw ht (zge_lt (by omega) (by omega) (by assumption))).1]
      refine zeP rfl rfl ?_
      refine zeP rfl rfl ?_
      simp only [l_partsOf, h1, cond_true, cond_false]
      exact ih ((c + 1)) ((bpn W t p))   (by have e := bp_n (p := p) hw ht (zge_lt (by omega) (by omega) (by assumption)); omega) (by have e := bp_n (p := p) hw ht (zge_lt (by omega) (by omega) (by assumption)); omega)
