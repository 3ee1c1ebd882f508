theorem zne1t {a : Nat} (h : a < 2147483648) : zc2 .ne (Int32.ofNat a) (-1) = true := by
  apply decide_eq_true
  intro e
  have h1 := congrArg Int32.toInt e
  rw [zoN h] at h1
  have h2 : (-1 : Int32).toInt = -1 := by decide
  omega
theorem zge_lt {a b : Nat} (ha : a < 2147483648) (hb : b < 2147483648) (h : zc2 .ge (Int32.ofNat a) (Int32.ofNat b) = false) : a < b := by
  apply Nat.lt_of_not_le
  intro q
  rw [zcge ha hb q] at h
  cases h
theorem bpL {W : Nat → Int32} {t : Nat} : ∀ (n : Nat) (h : Int32) (k : Nat), ∃ v, k < v ∧ v ≤ k + n + 1 ∧ l_behindPart W t n h k = Int32.ofNat v := by
  intro n
  induction n with
  | zero => intro h k; exact ⟨k + 1, by omega, by omega, rfl⟩
  | succ n ih =>
    intro h k
    rw [l_behindPart]
    cases zc1 .ne (q_heldBehind W t k h) with
    | true =>
      rw [cond_true]
      obtain ⟨v, a, b, c⟩ := ih (q_heldBehind W t k h) (k + 1)
      exact ⟨v, by omega, by omega, c⟩
    | false => exact ⟨k + 1, by omega, by omega, rfl⟩
noncomputable def bpn (W : Nat → Int32) (t p : Nat) : Nat := (q_behindPart W t p).toNatClampNeg
theorem bp_n {W : Nat → Int32} {t p : Nat} (h : WG W) (ht : t < 4) (hp : p < nv W (376 + 103 * t + 22)) : q_behindPart W t p = Int32.ofNat (bpn W t p) ∧ p < bpn W t p ∧ bpn W t p ≤ nv W (376 + 103 * t + 22) := by
  have h24 := (h.2 t ht).2.2.2.1.2.2
  obtain ⟨v, a, b, c⟩ := bpL (W := W) (t := t) (nv W (376 + 103 * t + 22) - 1 - p) (Int32.ofNat 0) p
  have e : q_behindPart W t p = Int32.ofNat v := c
  unfold bpn
  rw [e, nv_on (by first | exact zq_adn (by decide) | exact zq_adr (zq_adn (by decide)) | omega)]
  exact ⟨rfl, a, by omega⟩
noncomputable def l_partsOf (W : Nat → Int32) (t : Nat) : Nat → Nat → Nat → Int32
  | 0, c, p => (Int32.ofNat c)
  | n + 1, c, p => (bif zc2 .ge (Int32.ofNat p) (Int32.ofNat (nv W (376 + 103 * t + 22))) then (Int32.ofNat c) else (l_partsOf W t n ((c + 1)) ((bpn W t p))))
theorem w_partsOf {σ : Nat → Nat × (Nat → Int32)} {yy : (Nat → Nat → Int64) × Bool × Nat × Nat} {m : Nat → Nat → Int32} {W : Nat → Int32} {t : Nat} {d : Nat} (hd : 6 ≤ d + 1) (hw : WG W) (ht : t < 4) (h24 : nv W (376 + 103 * t + 22) ≤ 24) : ∀ (n : Nat) (c : Nat) (p : Nat), nv W (376 + 103 * t + 22) ≤ p + n → p ≤ 24 → zEv σ (d + 1) 1900 4 [some (.ref 137), some (.int (Int32.ofNat t)), some (.int (Int32.ofNat c)), some (.int (Int32.ofNat p))] [] (zS1, zrow m 138 W, yy) (.inl (some (.int (l_partsOf W t n c p)))) (zS1, zrow m 138 W, yy) := by
  intro n
  induction n with
  | zero =>
    intro c p hk hp
    refine zeP rfl rfl ?_
    refine zeP rfl rfl ?_
    refine zeP rfl rfl ?_
    refine zeKn (c := 22) rfl rfl rfl ?_
    refine zeCF rfl rfl rfl rfl rfl rfl (c_of (m := m) (W := W) (t := t) (k := 22) (by first | assumption | omega)) (by first | exact zq_adn (by decide) | exact zq_adr (zq_adn (by decide)) | omega) ?_
    dsimp only [Option.toList, List.cons_append, List.nil_append]
    rw [show q_of W t 22 = Int32.ofNat (nv W (376 + 103 * t + 22)) from (hw.2 t ht).2.2.2.1.1]
    refine zeT2 rfl rfl (zcge (by first | exact zq_adn (by decide) | exact zq_adr (zq_adn (by decide)) | omega) (by first | exact zq_adn (by decide) | exact zq_adr (zq_adn (by decide)) | omega) (by first | exact zq_adn (by decide) | exact zq_adr (zq_adn (by decide)) | omega)) ?_
    refine zeP rfl rfl ?_
    exact zeRe rfl rfl rfl rfl (by rfl) (by rfl)
  | succ n ih =>
    intro c p hk hp
    refine zeP rfl rfl ?_
    refine zeP rfl rfl ?_
    refine zeP rfl rfl ?_
    refine zeKn (c := 22) rfl rfl rfl ?_
    refine zeCF rfl rfl rfl rfl rfl rfl (c_of (m := m) (W := W) (t := t) (k := 22) (by first | assumption | omega)) (by first | exact zq_adn (by decide) | exact zq_adr (zq_adn (by decide)) | omega) ?_
    dsimp only [Option.toList, List.cons_append, List.nil_append]
    rw [show q_of W t 22 = Int32.ofNat (nv W (376 + 103 * t + 22)) from (hw.2 t ht).2.2.2.1.1]
    refine zeB2 rfl rfl (fun h1 => ?_) (fun h1 => ?_)
    · refine zeP rfl rfl ?_
      exact zeRe rfl rfl rfl rfl (by simp only [l_partsOf, h1, cond_true, cond_false] <;> rfl) (by simp only [l_partsOf, h1, cond_true, cond_false] <;> rfl)
    · refine zeInc rfl rfl ?_
      refine zeP rfl rfl ?_
      refine zeP rfl rfl ?_
      refine zeP rfl rfl ?_
      refine zeCF rfl rfl rfl rfl rfl rfl (c_behindPart (m := m) (W := W) (t := t) (p := p) hw ht (zge_lt (by first | exact zq_adn (by decide) | exact zq_adr (zq_adn (by decide)) | omega) (by first | exact zq_adn (by decide) | exact zq_adr (zq_adn (by decide)) | omega) (by assumption))) (by first | exact zq_adn (by decide) | exact zq_adr (zq_adn (by decide)) | omega) ?_
      dsimp only [Option.toList, List.cons_append, List.nil_append]
      rw [(bp_n (p := p) hw ht (zge_lt (by first | exact zq_adn (by decide) | exact zq_adr (zq_adn (by decide)) | omega) (by first | exact zq_adn (by decide) | exact zq_adr (zq_adn (by decide)) | omega) (by assumption))).1]
      refine zeP rfl rfl ?_
      refine zeP rfl rfl ?_
      simp only [l_partsOf, h1, cond_true, cond_false]
      exact ih ((c + 1)) ((bpn W t p))   (by have e := bp_n (p := p) hw ht (zge_lt (by first | exact zq_adn (by decide) | exact zq_adr (zq_adn (by decide)) | omega) (by first | exact zq_adn (by decide) | exact zq_adr (zq_adn (by decide)) | omega) (by assumption)); omega) (by have e := bp_n (p := p) hw ht (zge_lt (by first | exact zq_adn (by decide) | exact zq_adr (zq_adn (by decide)) | omega) (by first | exact zq_adn (by decide) | exact zq_adr (zq_adn (by decide)) | omega) (by assumption)); omega)
noncomputable def q_partsOf (W : Nat → Int32) (t : Nat) : Int32 := (l_partsOf W t ((nv W (376 + 103 * t + 22))) 0 0)
theorem p_partsOf {σ : Nat → Nat × (Nat → Int32)} {yy : (Nat → Nat → Int64) × Bool × Nat × Nat} {m : Nat → Nat → Int32} {W : Nat → Int32} {t : Nat} {d : Nat} (hd : 6 ≤ d + 1) (hw : WG W) (ht : t < 4) : zEv σ (d + 1) 1900 0 [some (.ref 137), some (.int (Int32.ofNat t)), none, none] [] (zS1, zrow m 138 W, yy) (.inl (some (.int (q_partsOf W t)))) (zS1, zrow m 138 W, yy) := by
  refine zeKn (c := 0) rfl rfl rfl ?_
  refine zeP rfl rfl ?_
  refine zeKn (c := 0) rfl rfl rfl ?_
  refine zeP rfl rfl ?_
  simp only [q_partsOf, cond_true, cond_false]
  exact w_partsOf (t := t) (W := W) (m := m) (by first | exact zq_adn (by decide) | exact zq_adr (zq_adn (by decide)) | omega) hw ht (hw.2 t ht).2.2.2.1.2.2 ((nv W (376 + 103 * t + 22))) (0) (0)   (by first | exact zq_adn (by decide) | exact zq_adr (zq_adn (by decide)) | omega) (by first | exact zq_adn (by decide) | exact zq_adr (zq_adn (by decide)) | omega)
theorem c_partsOf {σ : Nat → Nat × (Nat → Int32)} {yy : (Nat → Nat → Int64) × Bool × Nat × Nat} {m : Nat → Nat → Int32} {W : Nat → Int32} {t : Nat} (hw : WG W) (ht : t < 4) : zF σ 6 1900 [.ref 137, .int (Int32.ofNat t)] (zS1, zrow m 138 W, yy) (.inl (some (.int (q_partsOf W t)))) (zS1, zrow m 138 W, yy) := by
  intro d hd
  obtain ⟨d, rfl⟩ : ∃ k, d = k + 1 := ⟨d - 1, by omega⟩
  exact p_partsOf hd hw ht
noncomputable def q_parts (m : Nat → Nat → Int32) (W : Nat → Int32) (t : Int32) : Int32 × (Nat → Nat → Int32) := (bif zc1 .eq (q_noThread m W t).1 then ((q_partsOf W ((t.toNatClampNeg))), (q_noThread m W t).2) else ((Int32.ofNat 0), (q_noThread m W t).2))
theorem p_parts {σ : Nat → Nat × (Nat → Int32)} {yy : (Nat → Nat → Int64) × Bool × Nat × Nat} {m : Nat → Nat → Int32} {W : Nat → Int32} {t : Int32} {d : Nat} (hd : 7 ≤ d + 1) (hw : WG W) : zEv σ (d + 1) 1901 0 [some (.ref 137), some (.int t)] [] (zS1, zrow m 138 W, yy) (.inl (some (.int (q_parts m W t).1))) (zS1, zrow ((q_parts m W t).2) 138 W, yy) := by
  refine zeP rfl rfl ?_
  refine zeP rfl rfl ?_
  refine zeCF rfl rfl rfl rfl rfl rfl (c_noThread (m := m) (W := W) (t := t) ) (by first | exact zq_adn (by decide) | exact zq_adr (zq_adn (by decide)) | omega) ?_
  dsimp only [Option.toList, List.cons_append, List.nil_append]
  refine zeB1 rfl rfl (fun h1 => ?_) (fun h1 => ?_)
  · have ct : t = Int32.ofNat t.toNatClampNeg ∧ t.toNatClampNeg < nv W 9 := (nT_in hw (zneF (by assumption)))
    refine zeP rfl rfl ?_
    refine zeKn (c := t.toNatClampNeg) rfl rfl ct.1 ?_
    refine zeCF rfl rfl rfl rfl rfl rfl (c_partsOf (m := (q_noThread m W t).2) (W := W) (t := (t.toNatClampNeg)) hw (by have := hw.N4; omega)) (by first | exact zq_adn (by decide) | exact zq_adr (zq_adn (by decide)) | omega) ?_
    dsimp only [Option.toList, List.cons_append, List.nil_append]
    exact zeRe rfl rfl rfl rfl (by simp only [q_parts, h1, cond_true, cond_false] <;> rfl) (by simp only [q_parts, h1, cond_true, cond_false] <;> rfl)
  · refine zeKn (c := 0) rfl rfl rfl ?_
    refine zeP rfl rfl ?_
    exact zeRe rfl rfl rfl rfl (by simp only [q_parts, h1, cond_true, cond_false] <;> rfl) (by simp only [q_parts, h1, cond_true, cond_false] <;> rfl)
theorem c_parts {σ : Nat → Nat × (Nat → Int32)} {yy : (Nat → Nat → Int64) × Bool × Nat × Nat} {m : Nat → Nat → Int32} {W : Nat → Int32} {t : Int32} (hw : WG W) : zF σ 7 1901 [.ref 137, .int t] (zS1, zrow m 138 W, yy) (.inl (some (.int (q_parts m W t).1))) (zS1, zrow ((q_parts m W t).2) 138 W, yy) := by
  intro d hd
  obtain ⟨d, rfl⟩ : ∃ k, d = k + 1 := ⟨d - 1, by omega⟩
  exact p_parts hd hw
theorem goesT_ok {q : Nat} : ∀ (n k : Nat) (W : Nat → Int32) (m : Nat → Nat → Int32), WG W → LT W → WG (l_goesT q n k W m).2.1 ∧ LT (l_goesT q n k W m).2.1 := by
  intro n
  induction n with
  | zero => intro k W m h hL; exact ⟨h, hL⟩
  | succ n ih =>
    intro k W m h hL
    rw [l_goesT]
    refine cndh (fun q : QT => WG q.2.1 ∧ LT q.2.1) (fun _ => ⟨h, hL⟩) (fun hc => cndi (fun q : QT => WG q.2.1 ∧ LT q.2.1) ⟨h, hL⟩ ?_)
    obtain ⟨-, n4, nk⟩ := next_n h hL hc
    have hs := steps_ok (m := m) nk n4
    exact ih _ _ _ hs.1 (LT_of hs.2 n4)
theorem goesD_ok {q : Nat} : ∀ (n k : Nat) (W : Nat → Int32) (m : Nat → Nat → Int32), WG W → LT W → WG (l_goesD q n k W m).2.1 ∧ LT (l_goesD q n k W m).2.1 := by
  intro n
  induction n with
  | zero => intro k W m h hL; exact ⟨h, hL⟩
  | succ n ih =>
    intro k W m h hL
    rw [l_goesD]
    refine cndh (fun q : QT => WG q.2.1 ∧ LT q.2.1) (fun _ => ⟨h, hL⟩) (fun hc => cndi (fun q : QT => WG q.2.1 ∧ LT q.2.1) ⟨h, hL⟩ ?_)
    obtain ⟨-, n4, nk⟩ := drawn_n h hc
    have hs := steps_ok (m := m) nk n4
    exact ih _ _ _ hs.1 (LT_of hs.2 n4)
noncomputable def l_dueOfX : Nat → Nat → (Nat → Int32) → (Nat → Nat → Int32) → Int32 × (Nat → Int32) × (Nat → Nat → Int32)
  | 0, k, W, m => ((-1), W, m)
  | n + 1, k, W, m => (bif zc1 .eq (q_areAllDone W) then (bif zc2 .ge (Int32.ofNat k) (Int32.ofNat 400) then (l_dueOfX n ((k + 1)) W m) else (bif zc2 .eq (W 11) (Int32.ofNat 99999) then ((-1), W, m) else (bif zc1 .ne (q_goesT m W 1).1 then (l_dueOfX n ((k + 1)) ((q_goesT m W 1).2.1) ((q_goesT m W 1).2.2)) else ((-1), (q_goesT m W 1).2.1, (q_goesT m W 1).2.2)))) else ((Int32.ofNat k), W, m))
theorem w_dueOfX {σ : Nat → Nat × (Nat → Int32)} {yy : (Nat → Nat → Int64) × Bool × Nat × Nat} {d : Nat} (hd : 11 ≤ d + 1) : ∀ (n : Nat) (k : Nat) (W : Nat → Int32) (m : Nat → Nat → Int32), k + n = 401 → WG W → LT W → zEv σ (d + 1) 1889 2 [some (.ref 137), some (.int (-1)), some (.int (Int32.ofNat k))] [] (zS1, zrow m 138 W, yy) (.inl (some (.int (l_dueOfX n k W m).1))) (zS1, zrow ((l_dueOfX n k W m).2.2) 138 ((l_dueOfX n k W m).2.1), yy) := by
  intro n
  induction n with
  | zero =>
    intro k W m hk hw hL
    refine zeP rfl rfl ?_
    refine zeKn (c := 400) rfl rfl rfl ?_
    refine zeT2 rfl rfl (zcgt (by first | exact zq_adn (by decide) | exact zq_adr (zq_adn (by decide)) | omega) (by first | exact zq_adn (by decide) | exact zq_adr (zq_adn (by decide)) | omega) (by first | exact zq_adn (by decide) | exact zq_adr (zq_adn (by decide)) | omega)) ?_
    refine zeK (v := -1) rfl rfl rfl ?_
    exact zeRe rfl rfl rfl rfl (by rfl) (by rfl)
  | succ n ih =>
    intro k W m hk hw hL
    refine zeP rfl rfl ?_
    refine zeKn (c := 400) rfl rfl rfl ?_
    refine zeF2 rfl rfl (zcgt_f (by first | exact zq_adn (by decide) | exact zq_adr (zq_adn (by decide)) | omega) (by first | exact zq_adn (by decide) | exact zq_adr (zq_adn (by decide)) | omega) (by first | exact zq_adn (by decide) | exact zq_adr (zq_adn (by decide)) | omega)) ?_
    refine zeP rfl rfl ?_
    refine zeK (v := -1) rfl rfl rfl ?_
    refine zeF2 rfl rfl (show zc2 .ne (-1) (-1) = false by decide) ?_
    refine zeP rfl rfl ?_
    refine zeCF rfl rfl rfl rfl rfl rfl (c_areAllDone (m := m) (W := W)  hw.N hw.N4) (by first | exact zq_adn (by decide) | exact zq_adr (zq_adn (by decide)) | omega) ?_
    dsimp only [Option.toList, List.cons_append, List.nil_append]
    refine zeB1 rfl rfl (fun h1 => ?_) (fun h1 => ?_)
    · refine zeP rfl rfl ?_
      refine zeKn (c := 400) rfl rfl rfl ?_
      refine zeB2 rfl rfl (fun h2 => ?_) (fun h2 => ?_)
      · refine zeInc rfl rfl ?_
        refine zeP rfl rfl ?_
        simp only [l_dueOfX, h1, h2, cond_true, cond_false]
        exact ih ((k + 1)) W m (by first | exact zq_adn (by decide) | exact zq_adr (zq_adn (by decide)) | omega) (by first | exact hw | exact (goesT_ok _ _ _ _ hw hL).1) (by first | exact hL | exact (goesT_ok _ _ _ _ hw hL).2)
      · refine zeP rfl rfl ?_
        refine zeGR rfl rfl zS137 rfl rfl ?_
        refine zeKn (c := 11) rfl rfl rfl ?_
        refine zeWL (k := 11) rfl (by first | exact zq_adn (by decide) | exact zq_adr (zq_adn (by decide)) | omega) ?_
        refine zeKn (c := 99999) rfl rfl rfl ?_
        refine zeB2 rfl rfl (fun h3 => ?_) (fun h3 => ?_)
        · refine zeK (v := -1) rfl rfl rfl ?_
          exact zeRe rfl rfl rfl rfl (by simp only [l_dueOfX, h1, h2, h3, cond_true, cond_false] <;> rfl) (by simp only [l_dueOfX, h1, h2, h3, cond_true, cond_false] <;> rfl)
        · refine zeP rfl rfl ?_
          refine zeKn (c := 1) rfl rfl rfl ?_
          refine zeKn (c := 0) rfl rfl rfl ?_
          refine zeCF rfl rfl rfl rfl rfl rfl (c_goesT (m := m) (W := W) (q := 1) (by first | exact zq_adn (by decide) | exact zq_adr (zq_adn (by decide)) | omega) hw hL) (by first | exact zq_adn (by decide) | exact zq_adr (zq_adn (by decide)) | omega) ?_
          dsimp only [Option.toList, List.cons_append, List.nil_append]
          refine zeB1 rfl rfl (fun h4 => ?_) (fun h4 => ?_)
          · refine zeInc rfl rfl ?_
            refine zeP rfl rfl ?_
            simp only [l_dueOfX, h1, h2, h3, h4, cond_true, cond_false]
            exact ih ((k + 1)) ((q_goesT m W 1).2.1) ((q_goesT m W 1).2.2) (by first | exact zq_adn (by decide) | exact zq_adr (zq_adn (by decide)) | omega) (by first | exact hw | exact (goesT_ok _ _ _ _ hw hL).1) (by first | exact hL | exact (goesT_ok _ _ _ _ hw hL).2)
          · refine zeK (v := -1) rfl rfl rfl ?_
            exact zeRe rfl rfl rfl rfl (by simp only [l_dueOfX, h1, h2, h3, h4, cond_true, cond_false] <;> rfl) (by simp only [l_dueOfX, h1, h2, h3, h4, cond_true, cond_false] <;> rfl)
    · refine zeP rfl rfl ?_
      refine zeP rfl rfl ?_
      exact zeRe rfl rfl rfl rfl (by simp only [l_dueOfX, h1, cond_true, cond_false] <;> rfl) (by simp only [l_dueOfX, h1, cond_true, cond_false] <;> rfl)
noncomputable def q_dueOfX (m : Nat → Nat → Int32) (W : Nat → Int32) : Int32 × (Nat → Int32) × (Nat → Nat → Int32) := (l_dueOfX 401 0 W m)
theorem p_dueOfX {σ : Nat → Nat × (Nat → Int32)} {yy : (Nat → Nat → Int64) × Bool × Nat × Nat} {m : Nat → Nat → Int32} {W : Nat → Int32} {d : Nat} (hd : 11 ≤ d + 1) (hw : WG W) (hL : LT W) : zEv σ (d + 1) 1889 0 [some (.ref 137), some (.int (-1)), none] [] (zS1, zrow m 138 W, yy) (.inl (some (.int (q_dueOfX m W).1))) (zS1, zrow ((q_dueOfX m W).2.2) 138 ((q_dueOfX m W).2.1), yy) := by
  refine zeKn (c := 0) rfl rfl rfl ?_
  refine zeP rfl rfl ?_
  simp only [q_dueOfX, cond_true, cond_false]
  exact w_dueOfX  (by first | exact zq_adn (by decide) | exact zq_adr (zq_adn (by decide)) | omega)  401 (0) W m (by first | exact zq_adn (by decide) | exact zq_adr (zq_adn (by decide)) | omega) hw hL
theorem c_dueOfX {σ : Nat → Nat × (Nat → Int32)} {yy : (Nat → Nat → Int64) × Bool × Nat × Nat} {m : Nat → Nat → Int32} {W : Nat → Int32} (hw : WG W) (hL : LT W) : zF σ 11 1889 [.ref 137, .int (-1)] (zS1, zrow m 138 W, yy) (.inl (some (.int (q_dueOfX m W).1))) (zS1, zrow ((q_dueOfX m W).2.2) 138 ((q_dueOfX m W).2.1), yy) := by
  intro d hd
  obtain ⟨d, rfl⟩ : ∃ k, d = k + 1 := ⟨d - 1, by omega⟩
  exact p_dueOfX hd hw hL
noncomputable def l_dueOf (t : Nat) : Nat → Nat → (Nat → Int32) → (Nat → Nat → Int32) → Int32 × (Nat → Int32) × (Nat → Nat → Int32)
  | 0, k, W, m => ((-1), W, m)
  | n + 1, k, W, m => (bif zc1 .eq (q_isDone W t) then (bif zc2 .ge (Int32.ofNat k) (Int32.ofNat 400) then (l_dueOf t n ((k + 1)) W m) else (bif zc2 .eq (W 11) (Int32.ofNat 99999) then ((-1), W, m) else (bif zc1 .ne (q_goesT m W 1).1 then (l_dueOf t n ((k + 1)) ((q_goesT m W 1).2.1) ((q_goesT m W 1).2.2)) else ((-1), (q_goesT m W 1).2.1, (q_goesT m W 1).2.2)))) else ((Int32.ofNat k), W, m))
theorem w_dueOf {σ : Nat → Nat × (Nat → Int32)} {yy : (Nat → Nat → Int64) × Bool × Nat × Nat} {t : Nat} {d : Nat} (hd : 11 ≤ d + 1) (ht : t < 4) : ∀ (n : Nat) (k : Nat) (W : Nat → Int32) (m : Nat → Nat → Int32), k + n = 401 → WG W → LT W → zEv σ (d + 1) 1889 2 [some (.ref 137), some (.int (Int32.ofNat t)), some (.int (Int32.ofNat k))] [] (zS1, zrow m 138 W, yy) (.inl (some (.int (l_dueOf t n k W m).1))) (zS1, zrow ((l_dueOf t n k W m).2.2) 138 ((l_dueOf t n k W m).2.1), yy) := by
  intro n
  induction n with
  | zero =>
    intro k W m hk hw hL
    refine zeP rfl rfl ?_
    refine zeKn (c := 400) rfl rfl rfl ?_
    refine zeT2 rfl rfl (zcgt (by first | exact zq_adn (by decide) | exact zq_adr (zq_adn (by decide)) | omega) (by first | exact zq_adn (by decide) | exact zq_adr (zq_adn (by decide)) | omega) (by first | exact zq_adn (by decide) | exact zq_adr (zq_adn (by decide)) | omega)) ?_
    refine zeK (v := -1) rfl rfl rfl ?_
    exact zeRe rfl rfl rfl rfl (by rfl) (by rfl)
  | succ n ih =>
    intro k W m hk hw hL
    refine zeP rfl rfl ?_
    refine zeKn (c := 400) rfl rfl rfl ?_
    refine zeF2 rfl rfl (zcgt_f (by first | exact zq_adn (by decide) | exact zq_adr (zq_adn (by decide)) | omega) (by first | exact zq_adn (by decide) | exact zq_adr (zq_adn (by decide)) | omega) (by first | exact zq_adn (by decide) | exact zq_adr (zq_adn (by decide)) | omega)) ?_
    refine zeP rfl rfl ?_
    refine zeK (v := -1) rfl rfl rfl ?_
    refine zeT2 rfl rfl (zne1t (by first | exact zq_adn (by decide) | exact zq_adr (zq_adn (by decide)) | omega)) ?_
    refine zeP rfl rfl ?_
    refine zeP rfl rfl ?_
    refine zeCF rfl rfl rfl rfl rfl rfl (c_isDone (m := m) (W := W) (t := t) ht) (by first | exact zq_adn (by decide) | exact zq_adr (zq_adn (by decide)) | omega) ?_
    dsimp only [Option.toList, List.cons_append, List.nil_append]
    refine zeB1 rfl rfl (fun h1 => ?_) (fun h1 => ?_)
    · refine zeP rfl rfl ?_
      refine zeKn (c := 400) rfl rfl rfl ?_
      refine zeB2 rfl rfl (fun h2 => ?_) (fun h2 => ?_)
      · refine zeInc rfl rfl ?_
        refine zeP rfl rfl ?_
        simp only [l_dueOf, h1, h2, cond_true, cond_false]
        exact ih ((k + 1)) W m (by first | exact zq_adn (by decide) | exact zq_adr (zq_adn (by decide)) | omega) (by first | exact hw | exact (goesT_ok _ _ _ _ hw hL).1) (by first | exact hL | exact (goesT_ok _ _ _ _ hw hL).2)
      · refine zeP rfl rfl ?_
        refine zeGR rfl rfl zS137 rfl rfl ?_
        refine zeKn (c := 11) rfl rfl rfl ?_
        refine zeWL (k := 11) rfl (by first | exact zq_adn (by decide) | exact zq_adr (zq_adn (by decide)) | omega) ?_
        refine zeKn (c := 99999) rfl rfl rfl ?_
        refine zeB2 rfl rfl (fun h3 => ?_) (fun h3 => ?_)
        · refine zeK (v := -1) rfl rfl rfl ?_
          exact zeRe rfl rfl rfl rfl (by simp only [l_dueOf, h1, h2, h3, cond_true, cond_false] <;> rfl) (by simp only [l_dueOf, h1, h2, h3, cond_true, cond_false] <;> rfl)
        · refine zeP rfl rfl ?_
          refine zeKn (c := 1) rfl rfl rfl ?_
          refine zeKn (c := 0) rfl rfl rfl ?_
          refine zeCF rfl rfl rfl rfl rfl rfl (c_goesT (m := m) (W := W) (q := 1) (by first | exact zq_adn (by decide) | exact zq_adr (zq_adn (by decide)) | omega) hw hL) (by first | exact zq_adn (by decide) | exact zq_adr (zq_adn (by decide)) | omega) ?_
          dsimp only [Option.toList, List.cons_append, List.nil_append]
          refine zeB1 rfl rfl (fun h4 => ?_) (fun h4 => ?_)
          · refine zeInc rfl rfl ?_
            refine zeP rfl rfl ?_
            simp only [l_dueOf, h1, h2, h3, h4, cond_true, cond_false]
            exact ih ((k + 1)) ((q_goesT m W 1).2.1) ((q_goesT m W 1).2.2) (by first | exact zq_adn (by decide) | exact zq_adr (zq_adn (by decide)) | omega) (by first | exact hw | exact (goesT_ok _ _ _ _ hw hL).1) (by first | exact hL | exact (goesT_ok _ _ _ _ hw hL).2)
          · refine zeK (v := -1) rfl rfl rfl ?_
            exact zeRe rfl rfl rfl rfl (by simp only [l_dueOf, h1, h2, h3, h4, cond_true, cond_false] <;> rfl) (by simp only [l_dueOf, h1, h2, h3, h4, cond_true, cond_false] <;> rfl)
    · refine zeP rfl rfl ?_
      exact zeRe rfl rfl rfl rfl (by simp only [l_dueOf, h1, cond_true, cond_false] <;> rfl) (by simp only [l_dueOf, h1, cond_true, cond_false] <;> rfl)
noncomputable def q_dueOf (m : Nat → Nat → Int32) (W : Nat → Int32) (t : Nat) : Int32 × (Nat → Int32) × (Nat → Nat → Int32) := (l_dueOf t 401 0 W m)
theorem p_dueOf {σ : Nat → Nat × (Nat → Int32)} {yy : (Nat → Nat → Int64) × Bool × Nat × Nat} {m : Nat → Nat → Int32} {W : Nat → Int32} {t : Nat} {d : Nat} (hd : 11 ≤ d + 1) (hw : WG W) (hL : LT W) (ht : t < 4) : zEv σ (d + 1) 1889 0 [some (.ref 137), some (.int (Int32.ofNat t)), none] [] (zS1, zrow m 138 W, yy) (.inl (some (.int (q_dueOf m W t).1))) (zS1, zrow ((q_dueOf m W t).2.2) 138 ((q_dueOf m W t).2.1), yy) := by
  refine zeKn (c := 0) rfl rfl rfl ?_
  refine zeP rfl rfl ?_
  simp only [q_dueOf, cond_true, cond_false]
  exact w_dueOf (t := t) (by first | exact zq_adn (by decide) | exact zq_adr (zq_adn (by decide)) | omega) ht 401 (0) W m (by first | exact zq_adn (by decide) | exact zq_adr (zq_adn (by decide)) | omega) hw hL
theorem c_dueOf {σ : Nat → Nat × (Nat → Int32)} {yy : (Nat → Nat → Int64) × Bool × Nat × Nat} {m : Nat → Nat → Int32} {W : Nat → Int32} {t : Nat} (hw : WG W) (hL : LT W) (ht : t < 4) : zF σ 11 1889 [.ref 137, .int (Int32.ofNat t)] (zS1, zrow m 138 W, yy) (.inl (some (.int (q_dueOf m W t).1))) (zS1, zrow ((q_dueOf m W t).2.2) 138 ((q_dueOf m W t).2.1), yy) := by
  intro d hd
  obtain ⟨d, rfl⟩ : ∃ k, d = k + 1 := ⟨d - 1, by omega⟩
  exact p_dueOf hd hw hL ht
noncomputable def q_due (m : Nat → Nat → Int32) (W : Nat → Int32) (t : Int32) : Int32 × (Nat → Int32) × (Nat → Nat → Int32) := (bif zc1 .eq (q_noThread m W t).1 then ((q_dueOf ((zrow ((q_noThread m W t).2) 140 (crow W (((q_noThread m W t).2) 140)))) W ((t.toNatClampNeg))).1, (crow (((q_dueOf ((zrow ((q_noThread m W t).2) 140 (crow W (((q_noThread m W t).2) 140)))) W ((t.toNatClampNeg))).2.2) 140) ((q_dueOf ((zrow ((q_noThread m W t).2) 140 (crow W (((q_noThread m W t).2) 140)))) W ((t.toNatClampNeg))).2.1)), (q_dueOf ((zrow ((q_noThread m W t).2) 140 (crow W (((q_noThread m W t).2) 140)))) W ((t.toNatClampNeg))).2.2) else ((Int32.ofNat 0), W, (q_noThread m W t).2))
theorem p_due {σ : Nat → Nat × (Nat → Int32)} {yy : (Nat → Nat → Int64) × Bool × Nat × Nat} {m : Nat → Nat → Int32} {W : Nat → Int32} {t : Int32} {d : Nat} (hd : 12 ≤ d + 1) (hw : WG W) (hL : LT W) : zEv σ (d + 1) 1890 0 [some (.ref 137), some (.int t), none] [] (zS1, zrow m 138 W, yy) (.inl (some (.int (q_due m W t).1))) (zS1, zrow ((q_due m W t).2.2) 138 ((q_due m W t).2.1), yy) := by
  refine zeP rfl rfl ?_
  refine zeP rfl rfl ?_
  refine zeCF rfl rfl rfl rfl rfl rfl (c_noThread (m := m) (W := W) (t := t) ) (by first | exact zq_adn (by decide) | exact zq_adr (zq_adn (by decide)) | omega) ?_
  dsimp only [Option.toList, List.cons_append, List.nil_append]
  refine zeB1 rfl rfl (fun h1 => ?_) (fun h1 => ?_)
  · have ct : t = Int32.ofNat t.toNatClampNeg ∧ t.toNatClampNeg < nv W 9 := (nT_in hw (zneF (by assumption)))
    refine zeP rfl rfl ?_
    refine zeGR rfl rfl zS137 rfl rfl ?_
    refine zeP rfl rfl ?_
    refine zeGR rfl rfl zS137 rfl rfl ?_
    refine zeCF rfl rfl rfl rfl rfl rfl (c_cpF (m := (q_noThread m W t).2) (W := W) (b := 140) (by decide) rfl) (by first | exact zq_adn (by decide) | exact zq_adr (zq_adn (by decide)) | omega) ?_
    dsimp only [Option.toList, List.cons_append, List.nil_append]
    refine zeP rfl rfl ?_
    refine zeKn (c := t.toNatClampNeg) rfl rfl ct.1 ?_
    refine zeCF rfl rfl rfl rfl rfl rfl (c_dueOf (m := (zrow ((q_noThread m W t).2) 140 (crow W (((q_noThread m W t).2) 140)))) (W := W) (t := (t.toNatClampNeg)) hw hL (by have := hw.N4; omega)) (by first | exact zq_adn (by decide) | exact zq_adr (zq_adn (by decide)) | omega) ?_
    dsimp only [Option.toList, List.cons_append, List.nil_append]
    refine zeP rfl rfl ?_
    refine zeP rfl rfl ?_
    refine zeGR rfl rfl zS137 rfl rfl ?_
    refine zeP rfl rfl ?_
    refine zeGR rfl rfl zS137 rfl rfl ?_
    refine zeCF rfl rfl rfl rfl rfl rfl (c_cpB (m := (q_dueOf ((zrow ((q_noThread m W t).2) 140 (crow W (((q_noThread m W t).2) 140)))) W ((t.toNatClampNeg))).2.2) (W := (q_dueOf ((zrow ((q_noThread m W t).2) 140 (crow W (((q_noThread m W t).2) 140)))) W ((t.toNatClampNeg))).2.1) (b := 140) (by decide) rfl rfl) (by first | exact zq_adn (by decide) | exact zq_adr (zq_adn (by decide)) | omega) ?_
    dsimp only [Option.toList, List.cons_append, List.nil_append]
    refine zeP rfl rfl ?_
    exact zeRe rfl rfl rfl rfl (by simp only [q_due, h1, cond_true, cond_false] <;> rfl) (by simp only [q_due, h1, cond_true, cond_false] <;> rfl)
  · refine zeKn (c := 0) rfl rfl rfl ?_
    exact zeRe rfl rfl rfl rfl (by simp only [q_due, h1, cond_true, cond_false] <;> rfl) (by simp only [q_due, h1, cond_true, cond_false] <;> rfl)
theorem c_due {σ : Nat → Nat × (Nat → Int32)} {yy : (Nat → Nat → Int64) × Bool × Nat × Nat} {m : Nat → Nat → Int32} {W : Nat → Int32} {t : Int32} (hw : WG W) (hL : LT W) : zF σ 12 1890 [.ref 137, .int t] (zS1, zrow m 138 W, yy) (.inl (some (.int (q_due m W t).1))) (zS1, zrow ((q_due m W t).2.2) 138 ((q_due m W t).2.1), yy) := by
  intro d hd
  obtain ⟨d, rfl⟩ : ∃ k, d = k + 1 := ⟨d - 1, by omega⟩
  exact p_due hd hw hL
theorem WG.need {W : Nat → Int32} (h : WG W) (x : Int32) : WG (upd W 4 x) := h.put _ (fre_lo (by first | exact zq_adn (by decide) | exact zq_adr (zq_adn (by decide)) | omega) (by first | exact zq_adn (by decide) | exact zq_adr (zq_adn (by decide)) | omega))
theorem LT.put {W : Nat → Int32} (h : LT W) {k : Nat} (x : Int32) (hk : 12 ≠ k) : LT (upd W k x) := by
  unfold LT lt1 at *
  rw [upd_ne _ _ hk]; exact h
noncomputable def q_dueBy (m : Nat → Nat → Int32) (W : Nat → Int32) (b : Nat) : Int32 × (Nat → Int32) × (Nat → Nat → Int32) := ((q_dueOfX ((zrow m 140 (crow W (m 140)))) ((upd W 4 (Int32.ofNat b)))).1, (crow (((q_dueOfX ((zrow m 140 (crow W (m 140)))) ((upd W 4 (Int32.ofNat b)))).2.2) 140) ((q_dueOfX ((zrow m 140 (crow W (m 140)))) ((upd W 4 (Int32.ofNat b)))).2.1)), (q_dueOfX ((zrow m 140 (crow W (m 140)))) ((upd W 4 (Int32.ofNat b)))).2.2)
theorem p_dueBy {σ : Nat → Nat × (Nat → Int32)} {yy : (Nat → Nat → Int64) × Bool × Nat × Nat} {m : Nat → Nat → Int32} {W : Nat → Int32} {b : Nat} {d : Nat} (hd : 12 ≤ d + 1) (hw : WG W) (hL : LT W) : zEv σ (d + 1) 1891 0 [some (.ref 137), some (.int (Int32.ofNat b)), none] [] (zS1, zrow m 138 W, yy) (.inl (some (.int (q_dueBy m W b).1))) (zS1, zrow ((q_dueBy m W b).2.2) 138 ((q_dueBy m W b).2.1), yy) := by
  refine zeP rfl rfl ?_
  refine zeGR rfl rfl zS137 rfl rfl ?_
  refine zeP rfl rfl ?_
  refine zeGR rfl rfl zS137 rfl rfl ?_
  refine zeCF rfl rfl rfl rfl rfl rfl (c_cpF (m := m) (W := W) (b := 140) (by decide) rfl) (by first | exact zq_adn (by decide) | exact zq_adr (zq_adn (by decide)) | omega) ?_
  dsimp only [Option.toList, List.cons_append, List.nil_append]
  refine zeP rfl rfl ?_
  refine zeGR rfl rfl zS137 rfl rfl ?_
  refine zeKn (c := 4) rfl rfl rfl ?_
  refine zeP rfl rfl ?_
  refine zeWS (k := 4) rfl (by first | exact zq_adn (by decide) | exact zq_adr (zq_adn (by decide)) | omega) ?_
  refine zeP rfl rfl ?_
  refine zeK (v := -1) rfl rfl rfl ?_
  refine zeCF rfl rfl rfl rfl rfl rfl (c_dueOfX (m := (zrow m 140 (crow W (m 140)))) (W := (upd W 4 (Int32.ofNat b)))  (hw.need _) (hL.put _ (by first | exact zq_adn (by decide) | exact zq_adr (zq_adn (by decide)) | omega))) (by first | exact zq_adn (by decide) | exact zq_adr (zq_adn (by decide)) | omega) ?_
  dsimp only [Option.toList, List.cons_append, List.nil_append]
  refine zeP rfl rfl ?_
  refine zeP rfl rfl ?_
  refine zeGR rfl rfl zS137 rfl rfl ?_
  refine zeP rfl rfl ?_
  refine zeGR rfl rfl zS137 rfl rfl ?_
  refine zeCF rfl rfl rfl rfl rfl rfl (c_cpB (m := (q_dueOfX ((zrow m 140 (crow W (m 140)))) ((upd W 4 (Int32.ofNat b)))).2.2) (W := (q_dueOfX ((zrow m 140 (crow W (m 140)))) ((upd W 4 (Int32.ofNat b)))).2.1) (b := 140) (by decide) rfl rfl) (by first | exact zq_adn (by decide) | exact zq_adr (zq_adn (by decide)) | omega) ?_
  dsimp only [Option.toList, List.cons_append, List.nil_append]
  refine zeP rfl rfl ?_
  exact zeRe rfl rfl rfl rfl (by rfl) (by rfl)
theorem c_dueBy {σ : Nat → Nat × (Nat → Int32)} {yy : (Nat → Nat → Int64) × Bool × Nat × Nat} {m : Nat → Nat → Int32} {W : Nat → Int32} {b : Nat} (hw : WG W) (hL : LT W) : zF σ 12 1891 [.ref 137, .int (Int32.ofNat b)] (zS1, zrow m 138 W, yy) (.inl (some (.int (q_dueBy m W b).1))) (zS1, zrow ((q_dueBy m W b).2.2) 138 ((q_dueBy m W b).2.1), yy) := by
  intro d hd
  obtain ⟨d, rfl⟩ : ∃ k, d = k + 1 := ⟨d - 1, by omega⟩
  exact p_dueBy hd hw hL
noncomputable def q_plain (m : Nat → Nat → Int32) (W : Nat → Int32) : Int32 × (Nat → Int32) × (Nat → Nat → Int32) := ((q_dueBy ((zm2 m 137 0 (Int32.ofNat 0))) W 16).1, (q_dueBy ((zm2 m 137 0 (Int32.ofNat 0))) W 16).2.1, (q_dueBy ((zm2 m 137 0 (Int32.ofNat 0))) W 16).2.2)
theorem p_plain {σ : Nat → Nat × (Nat → Int32)} {yy : (Nat → Nat → Int64) × Bool × Nat × Nat} {m : Nat → Nat → Int32} {W : Nat → Int32} {d : Nat} (hd : 13 ≤ d + 1) (hw : WG W) (hL : LT W) : zEv σ (d + 1) 1893 0 [some (.ref 137)] [] (zS1, zrow m 138 W, yy) (.inl (some (.int (q_plain m W).1))) (zS1, zrow ((q_plain m W).2.2) 138 ((q_plain m W).2.1), yy) := by
  refine zeP rfl rfl ?_
  refine zeKn (c := 0) rfl rfl rfl ?_
  refine zeFP rfl rfl rfl ?_
  refine zeP rfl rfl ?_
  refine zeKn (c := 16) rfl rfl rfl ?_
  refine zeCF rfl rfl rfl rfl rfl rfl (c_dueBy (m := (zm2 m 137 0 (Int32.ofNat 0))) (W := W) (b := 16) hw hL) (by first | exact zq_adn (by decide) | exact zq_adr (zq_adn (by decide)) | omega) ?_
  dsimp only [Option.toList, List.cons_append, List.nil_append]
  exact zeRe rfl rfl rfl rfl (by rfl) (by rfl)
theorem c_plain {σ : Nat → Nat × (Nat → Int32)} {yy : (Nat → Nat → Int64) × Bool × Nat × Nat} {m : Nat → Nat → Int32} {W : Nat → Int32} (hw : WG W) (hL : LT W) : zF σ 13 1893 [.ref 137] (zS1, zrow m 138 W, yy) (.inl (some (.int (q_plain m W).1))) (zS1, zrow ((q_plain m W).2.2) 138 ((q_plain m W).2.1), yy) := by
  intro d hd
  obtain ⟨d, rfl⟩ : ∃ k, d = k + 1 := ⟨d - 1, by omega⟩
  exact p_plain hd hw hL
