/-! draws, and going on -/
theorem zand15 (x : Int32) : ∃ k : Nat, k ≤ 32767 ∧ x &&& Int32.ofNat 32767 = Int32.ofNat k := by
  have h : (x &&& Int32.ofNat 32767).toBitVec.toNat ≤ 32767 := by
    rw [Int32.toBitVec_and, BitVec.toNat_and]
    exact Nat.and_le_right
  refine ⟨_, h, ?_⟩
  apply Int32.toInt_inj.mp
  rw [zoN (by first | exact zq_adn (by decide) | exact zq_adr (zq_adn (by decide)) | omega)]
  exact BitVec.toInt_eq_toNat_of_lt (by first | exact zq_adn (by decide) | exact zq_adr (zq_adn (by decide)) | omega)
theorem draw_b {W : Nat → Int32} (hN : W 9 = Int32.ofNat (nv W 9)) (hN4 : nv W 9 ≤ 4) : q_threads W - q_bits (q_doneOnes W) = Int32.ofNat (ndc W (nv W 9) 0) := by
  have h9 : q_threads W = Int32.ofNat (nv W 9) := hN
  have hc := ndc_le W (nv W 9) 0
  rw [(done_fin hN hN4).1, h9]
  have e : nv W 9 = ndc W (nv W 9) 0 + (nv W 9 - ndc W (nv W 9) 0) := by omega
  have e2 : Int32.ofNat (nv W 9) = Int32.ofNat (ndc W (nv W 9) 0) + Int32.ofNat (nv W 9 - ndc W (nv W 9) 0) := by
    rw [← Int32.ofNat_add, ← e]
  rw [e2, Int32.add_sub_cancel]
theorem left0 {W : Nat → Int32} (h : WG W) (hc : zc1 .ne (q_areAllDone W) = false) : 1 ≤ ndc W (nv W 9) 0 := by
  apply Nat.succ_le_of_lt
  apply Nat.pos_of_ne_zero
  intro e
  rw [(done_fin h.N h.N4).2, e] at hc
  exact absurd hc (by decide)
theorem draw_d {W : Nat → Int32} (h : WG W) (hc : zc1 .ne (q_areAllDone W) = false) : ¬ (q_threads W - q_bits (q_doneOnes W)) = 0 := by
  have h1 := left0 h hc
  have h2 := ndc_le W (nv W 9) 0
  have h3 := h.N4
  rw [draw_b h.N h.N4]
  exact zon0 h1 (by first | exact zq_adn (by decide) | exact zq_adr (zq_adn (by decide)) | omega)
theorem drawOf_2 (W : Nat → Int32) (b : Int32) : (q_drawOf W b).2 = upd W 13 (W 13 * Int32.ofNat 1103515245 + Int32.ofNat 12345) := rfl
theorem dn_put {W : Nat → Int32} {x : Int32} {u : Nat} : dn (upd W 13 x) u = dn W u := by
  unfold dn q_of
  rw [upd_ne _ _ (by first | exact zq_adn (by decide) | exact zq_adr (zq_adn (by decide)) | omega), upd_ne _ _ (by first | exact zq_adn (by decide) | exact zq_adr (zq_adn (by decide)) | omega)]
theorem ndc_put {W : Nat → Int32} {x : Int32} : ∀ n k, ndc (upd W 13 x) n k = ndc W n k := by
  intro n
  induction n with
  | zero => intro k; rfl
  | succ n ih => intro k; rw [ndc, ndc, dn_put, ih]
theorem drawn_ok {W : Nat → Int32} (h : WG W) (hc : zc1 .ne (q_areAllDone W) = false) : ∃ v, v < nv W 9 ∧ AL (q_drawnOne W).2 v ∧ (q_drawnOne W).1 = Int32.ofNat v := by
  have h1 := left0 h hc
  have h2 := ndc_le W (nv W 9) 0
  have h3 := h.N4
  have hw : WG (q_drawnOne W).2 := h.put _ (fre_lo (by first | exact zq_adn (by decide) | exact zq_adr (zq_adn (by decide)) | omega) (by first | exact zq_adn (by decide) | exact zq_adr (zq_adn (by decide)) | omega))
  have e1 : ∃ A, A < ndc W (nv W 9) 0 ∧ (q_drawOf W (q_threads W - q_bits (q_doneOnes W))).1 = Int32.ofNat A := by
    rw [draw_b h.N h.N4]
    unfold q_drawOf
    dsimp only
    obtain ⟨X, hX, eX⟩ := zand15 (((upd W 13 (W 13 * Int32.ofNat 1103515245 + Int32.ofNat 12345) 13).toUInt32 >>> ((Int32.ofNat 16).toUInt32 &&& Int32.toUInt32 31)).toInt32)
    refine ⟨X % ndc W (nv W 9) 0, Nat.mod_lt _ (by first | exact zq_adn (by decide) | exact zq_adr (zq_adn (by decide)) | omega), ?_⟩
    rw [eX, zremN (by first | exact zq_adn (by decide) | exact zq_adr (zq_adn (by decide)) | omega) (by first | exact zq_adn (by decide) | exact zq_adr (zq_adn (by decide)) | omega)]
  obtain ⟨A, hA, eA⟩ := e1
  obtain ⟨v, -, v2, v3, v4⟩ := drawL (W := (q_drawnOne W).2) (n9 := nv W 9) (nv W 9) 0 A (by first | exact zq_adn (by decide) | exact zq_adr (zq_adn (by decide)) | omega) (by
    show A < ndc (upd W 13 _) (nv W 9) 0
    rw [ndc_put]; exact hA)
  refine ⟨v, by omega, dn_AL hw (by first | exact zq_adn (by decide) | exact zq_adr (zq_adn (by decide)) | omega) v3, ?_⟩
  rw [← v4, ← eA]
  rfl
noncomputable def nxn (W : Nat → Int32) : Nat := (q_nextOne W).toNatClampNeg
noncomputable def dxn (W : Nat → Int32) : Nat := (q_drawnOne W).1.toNatClampNeg
theorem next_n {W : Nat → Int32} (h : WG W) (hL : LT W) (hc : zc1 .ne (q_areAllDone W) = false) : q_nextOne W = Int32.ofNat (nxn W) ∧ nxn W < 4 ∧ KG W (nxn W) := by
  obtain ⟨v, v1, v2, v3⟩ := next_ok h hL hc
  have h4 := h.N4
  unfold nxn
  rw [v3, nv_on (by first | exact zq_adn (by decide) | exact zq_adr (zq_adn (by decide)) | omega)]
  exact ⟨rfl, by omega, h, v2⟩
theorem drawn_n {W : Nat → Int32} (h : WG W) (hc : zc1 .ne (q_areAllDone W) = false) : (q_drawnOne W).1 = Int32.ofNat (dxn W) ∧ dxn W < 4 ∧ KG (q_drawnOne W).2 (dxn W) := by
  obtain ⟨v, v1, v2, v3⟩ := drawn_ok h hc
  have h4 := h.N4
  unfold dxn
  rw [v3, nv_on (by first | exact zq_adn (by decide) | exact zq_adr (zq_adn (by decide)) | omega)]
  exact ⟨rfl, by omega, h.put _ (fre_lo (by first | exact zq_adn (by decide) | exact zq_adr (zq_adn (by decide)) | omega) (by first | exact zq_adn (by decide) | exact zq_adr (zq_adn (by decide)) | omega)), v2⟩
theorem LT_of {W : Nat → Int32} {t : Nat} (h : W 12 = Int32.ofNat t) (ht : t < 4) : LT W := by
  have e : W 12 + Int32.ofNat 1 = Int32.ofNat (t + 1) := by rw [h, Int32.ofNat_add]
  unfold LT lt1
  rw [e, nv_on (by first | exact zq_adn (by decide) | exact zq_adr (zq_adn (by decide)) | omega)]
  exact ⟨rfl, by omega⟩
noncomputable def l_goesT (q : Nat) : Nat → Nat → (Nat → Int32) → (Nat → Nat → Int32) → Int32 × (Nat → Int32) × (Nat → Nat → Int32)
  | 0, k, W, m => ((Int32.ofNat k), W, m)
  | n + 1, k, W, m => (bif zc1 .ne (q_areAllDone W) then ((Int32.ofNat k), W, m) else (bif zc2 .ge (W 11) (Int32.ofNat 99999) then ((Int32.ofNat k), W, m) else (l_goesT q n ((k + 1)) ((q_steps m W ((nxn W))).2.1) ((q_steps m W ((nxn W))).2.2))))
theorem w_goesT {σ : Nat → Nat × (Nat → Int32)} {yy : (Nat → Nat → Int64) × Bool × Nat × Nat} {q : Nat} {d : Nat} (hd : 10 ≤ d + 1) (hq : q ≤ 1000) : ∀ (n : Nat) (k : Nat) (x4 : Option Value) (W : Nat → Int32) (m : Nat → Nat → Int32), k + n = q → WG W → LT W → zEv σ (d + 1) 1865 2 [some (.ref 137), some (.int (Int32.ofNat q)), some (.int (Int32.ofNat 0)), some (.int (Int32.ofNat k)), x4] [] (zS1, zrow m 138 W, yy) (.inl (some (.int (l_goesT q n k W m).1))) (zS1, zrow ((l_goesT q n k W m).2.2) 138 ((l_goesT q n k W m).2.1), yy) := by
  intro n
  induction n with
  | zero =>
    intro k x4 W m hk hw hL
    refine zeP rfl rfl ?_
    refine zeP rfl rfl ?_
    refine zeT2 rfl rfl (zcge (by first | exact zq_adn (by decide) | exact zq_adr (zq_adn (by decide)) | omega) (by first | exact zq_adn (by decide) | exact zq_adr (zq_adn (by decide)) | omega) (by first | exact zq_adn (by decide) | exact zq_adr (zq_adn (by decide)) | omega)) ?_
    refine zeP rfl rfl ?_
    exact zeRe rfl rfl rfl rfl (by rfl) (by rfl)
  | succ n ih =>
    intro k x4 W m hk hw hL
    refine zeP rfl rfl ?_
    refine zeP rfl rfl ?_
    refine zeF2 rfl rfl (zcge_f (by first | exact zq_adn (by decide) | exact zq_adr (zq_adn (by decide)) | omega) (by first | exact zq_adn (by decide) | exact zq_adr (zq_adn (by decide)) | omega) (by first | exact zq_adn (by decide) | exact zq_adr (zq_adn (by decide)) | omega)) ?_
    refine zeP rfl rfl ?_
    refine zeCF rfl rfl rfl rfl rfl rfl (c_areAllDone (m := m) (W := W)  hw.N hw.N4) (by first | exact zq_adn (by decide) | exact zq_adr (zq_adn (by decide)) | omega) ?_
    dsimp only [Option.toList, List.cons_append, List.nil_append]
    refine zeB1 rfl rfl (fun h1 => ?_) (fun h1 => ?_)
    · refine zeP rfl rfl ?_
      exact zeRe rfl rfl rfl rfl (by simp only [l_goesT, h1, cond_true, cond_false] <;> rfl) (by simp only [l_goesT, h1, cond_true, cond_false] <;> rfl)
    · refine zeP rfl rfl ?_
      refine zeGR rfl rfl zS137 rfl rfl ?_
      refine zeKn (c := 11) rfl rfl rfl ?_
      refine zeWL (k := 11) rfl (by first | exact zq_adn (by decide) | exact zq_adr (zq_adn (by decide)) | omega) ?_
      refine zeKn (c := 99999) rfl rfl rfl ?_
      refine zeB2 rfl rfl (fun h2 => ?_) (fun h2 => ?_)
      · refine zeP rfl rfl ?_
        exact zeRe rfl rfl rfl rfl (by simp only [l_goesT, h1, h2, cond_true, cond_false] <;> rfl) (by simp only [l_goesT, h1, h2, cond_true, cond_false] <;> rfl)
      · refine zeP rfl rfl ?_
        refine zeP rfl rfl ?_
        refine zeT1 rfl rfl (show zc1 .eq (Int32.ofNat 0) = true by decide) ?_
        refine zeP rfl rfl ?_
        refine zeCF rfl rfl rfl rfl rfl rfl (c_nextOne (m := m) (W := W)  hw.N hw.N4 hL) (by first | exact zq_adn (by decide) | exact zq_adr (zq_adn (by decide)) | omega) ?_
        dsimp only [Option.toList, List.cons_append, List.nil_append]
        rw [(next_n hw hL (by assumption)).1]
        refine zeCF rfl rfl rfl rfl rfl rfl (c_steps (m := m) (W := W) (t := (nxn W)) (next_n hw hL (by assumption)).2.2 (next_n hw hL (by assumption)).2.1) (by first | exact zq_adn (by decide) | exact zq_adr (zq_adn (by decide)) | omega) ?_
        dsimp only [Option.toList, List.cons_append, List.nil_append]
        refine zeP rfl rfl ?_
        refine zeInc rfl rfl ?_
        refine zeP rfl rfl ?_
        simp only [l_goesT, h1, h2, cond_true, cond_false]
        exact ih ((k + 1)) (some (.int (q_steps m W ((nxn W))).1)) ((q_steps m W ((nxn W))).2.1) ((q_steps m W ((nxn W))).2.2) (by first | exact zq_adn (by decide) | exact zq_adr (zq_adn (by decide)) | omega) (steps_ok (next_n hw hL (by assumption)).2.2 (next_n hw hL (by assumption)).2.1).1 (LT_of (steps_ok (m := m) (next_n hw hL (by assumption)).2.2 (next_n hw hL (by assumption)).2.1).2 (next_n hw hL (by assumption)).2.1)
noncomputable def q_goesT (m : Nat → Nat → Int32) (W : Nat → Int32) (q : Nat) : Int32 × (Nat → Int32) × (Nat → Nat → Int32) := (l_goesT q q 0 W m)
theorem p_goesT {σ : Nat → Nat × (Nat → Int32)} {yy : (Nat → Nat → Int64) × Bool × Nat × Nat} {m : Nat → Nat → Int32} {W : Nat → Int32} {q : Nat} {d : Nat} (hd : 10 ≤ d + 1) (hq : q ≤ 1000) (hw : WG W) (hL : LT W) : zEv σ (d + 1) 1865 0 [some (.ref 137), some (.int (Int32.ofNat q)), some (.int (Int32.ofNat 0)), none, none] [] (zS1, zrow m 138 W, yy) (.inl (some (.int (q_goesT m W q).1))) (zS1, zrow ((q_goesT m W q).2.2) 138 ((q_goesT m W q).2.1), yy) := by
  refine zeKn (c := 0) rfl rfl rfl ?_
  refine zeP rfl rfl ?_
  simp only [q_goesT, cond_true, cond_false]
  exact w_goesT (q := q) (by first | exact zq_adn (by decide) | exact zq_adr (zq_adn (by decide)) | omega) hq q (0) (none) W m (by first | exact zq_adn (by decide) | exact zq_adr (zq_adn (by decide)) | omega) hw hL
theorem c_goesT {σ : Nat → Nat × (Nat → Int32)} {yy : (Nat → Nat → Int64) × Bool × Nat × Nat} {m : Nat → Nat → Int32} {W : Nat → Int32} {q : Nat} (hq : q ≤ 1000) (hw : WG W) (hL : LT W) : zF σ 10 1865 [.ref 137, .int (Int32.ofNat q), .int (Int32.ofNat 0)] (zS1, zrow m 138 W, yy) (.inl (some (.int (q_goesT m W q).1))) (zS1, zrow ((q_goesT m W q).2.2) 138 ((q_goesT m W q).2.1), yy) := by
  intro d hd
  obtain ⟨d, rfl⟩ : ∃ k, d = k + 1 := ⟨d - 1, by omega⟩
  exact p_goesT hd hq hw hL
noncomputable def l_goesD (q : Nat) : Nat → Nat → (Nat → Int32) → (Nat → Nat → Int32) → Int32 × (Nat → Int32) × (Nat → Nat → Int32)
  | 0, k, W, m => ((Int32.ofNat k), W, m)
  | n + 1, k, W, m => (bif zc1 .ne (q_areAllDone W) then ((Int32.ofNat k), W, m) else (bif zc2 .ge (W 11) (Int32.ofNat 99999) then ((Int32.ofNat k), W, m) else (l_goesD q n ((k + 1)) ((q_steps m ((q_drawnOne W).2) ((dxn W))).2.1) ((q_steps m ((q_drawnOne W).2) ((dxn W))).2.2))))
theorem w_goesD {σ : Nat → Nat × (Nat → Int32)} {yy : (Nat → Nat → Int64) × Bool × Nat × Nat} {q : Nat} {d : Nat} (hd : 10 ≤ d + 1) (hq : q ≤ 1000) : ∀ (n : Nat) (k : Nat) (x4 : Option Value) (W : Nat → Int32) (m : Nat → Nat → Int32), k + n = q → WG W → LT W → zEv σ (d + 1) 1865 2 [some (.ref 137), some (.int (Int32.ofNat q)), some (.int (Int32.ofNat 1)), some (.int (Int32.ofNat k)), x4] [] (zS1, zrow m 138 W, yy) (.inl (some (.int (l_goesD q n k W m).1))) (zS1, zrow ((l_goesD q n k W m).2.2) 138 ((l_goesD q n k W m).2.1), yy) := by
  intro n
  induction n with
  | zero =>
    intro k x4 W m hk hw hL
    refine zeP rfl rfl ?_
    refine zeP rfl rfl ?_
    refine zeT2 rfl rfl (zcge (by first | exact zq_adn (by decide) | exact zq_adr (zq_adn (by decide)) | omega) (by first | exact zq_adn (by decide) | exact zq_adr (zq_adn (by decide)) | omega) (by first | exact zq_adn (by decide) | exact zq_adr (zq_adn (by decide)) | omega)) ?_
    refine zeP rfl rfl ?_
    exact zeRe rfl rfl rfl rfl (by rfl) (by rfl)
  | succ n ih =>
    intro k x4 W m hk hw hL
    refine zeP rfl rfl ?_
    refine zeP rfl rfl ?_
    refine zeF2 rfl rfl (zcge_f (by first | exact zq_adn (by decide) | exact zq_adr (zq_adn (by decide)) | omega) (by first | exact zq_adn (by decide) | exact zq_adr (zq_adn (by decide)) | omega) (by first | exact zq_adn (by decide) | exact zq_adr (zq_adn (by decide)) | omega)) ?_
    refine zeP rfl rfl ?_
    refine zeCF rfl rfl rfl rfl rfl rfl (c_areAllDone (m := m) (W := W)  hw.N hw.N4) (by first | exact zq_adn (by decide) | exact zq_adr (zq_adn (by decide)) | omega) ?_
    dsimp only [Option.toList, List.cons_append, List.nil_append]
    refine zeB1 rfl rfl (fun h1 => ?_) (fun h1 => ?_)
    · refine zeP rfl rfl ?_
      exact zeRe rfl rfl rfl rfl (by simp only [l_goesD, h1, cond_true, cond_false] <;> rfl) (by simp only [l_goesD, h1, cond_true, cond_false] <;> rfl)
    · refine zeP rfl rfl ?_
      refine zeGR rfl rfl zS137 rfl rfl ?_
      refine zeKn (c := 11) rfl rfl rfl ?_
      refine zeWL (k := 11) rfl (by first | exact zq_adn (by decide) | exact zq_adr (zq_adn (by decide)) | omega) ?_
      refine zeKn (c := 99999) rfl rfl rfl ?_
      refine zeB2 rfl rfl (fun h2 => ?_) (fun h2 => ?_)
      · refine zeP rfl rfl ?_
        exact zeRe rfl rfl rfl rfl (by simp only [l_goesD, h1, h2, cond_true, cond_false] <;> rfl) (by simp only [l_goesD, h1, h2, cond_true, cond_false] <;> rfl)
      · refine zeP rfl rfl ?_
        refine zeP rfl rfl ?_
        refine zeF1 rfl rfl (show zc1 .eq (Int32.ofNat 1) = false by decide) ?_
        refine zeP rfl rfl ?_
        refine zeCF rfl rfl rfl rfl rfl rfl (c_drawnOne (m := m) (W := W)  hw.N hw.N4 (draw_d hw (by assumption))) (by first | exact zq_adn (by decide) | exact zq_adr (zq_adn (by decide)) | omega) ?_
        dsimp only [Option.toList, List.cons_append, List.nil_append]
        rw [(drawn_n hw (by assumption)).1]
        refine zeP rfl rfl ?_
        refine zeCF rfl rfl rfl rfl rfl rfl (c_steps (m := m) (W := (q_drawnOne W).2) (t := (dxn W)) (drawn_n hw (by assumption)).2.2 (drawn_n hw (by assumption)).2.1) (by first | exact zq_adn (by decide) | exact zq_adr (zq_adn (by decide)) | omega) ?_
        dsimp only [Option.toList, List.cons_append, List.nil_append]
        refine zeP rfl rfl ?_
        refine zeInc rfl rfl ?_
        refine zeP rfl rfl ?_
        simp only [l_goesD, h1, h2, cond_true, cond_false]
        exact ih ((k + 1)) (some (.int (q_steps m ((q_drawnOne W).2) ((dxn W))).1)) ((q_steps m ((q_drawnOne W).2) ((dxn W))).2.1) ((q_steps m ((q_drawnOne W).2) ((dxn W))).2.2) (by first | exact zq_adn (by decide) | exact zq_adr (zq_adn (by decide)) | omega) (steps_ok (drawn_n hw (by assumption)).2.2 (drawn_n hw (by assumption)).2.1).1 (LT_of (steps_ok (m := m) (drawn_n hw (by assumption)).2.2 (drawn_n hw (by assumption)).2.1).2 (drawn_n hw (by assumption)).2.1)
noncomputable def q_goesD (m : Nat → Nat → Int32) (W : Nat → Int32) (q : Nat) : Int32 × (Nat → Int32) × (Nat → Nat → Int32) := (l_goesD q q 0 W m)
theorem p_goesD {σ : Nat → Nat × (Nat → Int32)} {yy : (Nat → Nat → Int64) × Bool × Nat × Nat} {m : Nat → Nat → Int32} {W : Nat → Int32} {q : Nat} {d : Nat} (hd : 10 ≤ d + 1) (hq : q ≤ 1000) (hw : WG W) (hL : LT W) : zEv σ (d + 1) 1865 0 [some (.ref 137), some (.int (Int32.ofNat q)), some (.int (Int32.ofNat 1)), none, none] [] (zS1, zrow m 138 W, yy) (.inl (some (.int (q_goesD m W q).1))) (zS1, zrow ((q_goesD m W q).2.2) 138 ((q_goesD m W q).2.1), yy) := by
  refine zeKn (c := 0) rfl rfl rfl ?_
  refine zeP rfl rfl ?_
  simp only [q_goesD, cond_true, cond_false]
  exact w_goesD (q := q) (by first | exact zq_adn (by decide) | exact zq_adr (zq_adn (by decide)) | omega) hq q (0) (none) W m (by first | exact zq_adn (by decide) | exact zq_adr (zq_adn (by decide)) | omega) hw hL
theorem c_goesD {σ : Nat → Nat × (Nat → Int32)} {yy : (Nat → Nat → Int64) × Bool × Nat × Nat} {m : Nat → Nat → Int32} {W : Nat → Int32} {q : Nat} (hq : q ≤ 1000) (hw : WG W) (hL : LT W) : zF σ 10 1865 [.ref 137, .int (Int32.ofNat q), .int (Int32.ofNat 1)] (zS1, zrow m 138 W, yy) (.inl (some (.int (q_goesD m W q).1))) (zS1, zrow ((q_goesD m W q).2.2) 138 ((q_goesD m W q).2.1), yy) := by
  intro d hd
  obtain ⟨d, rfl⟩ : ∃ k, d = k + 1 := ⟨d - 1, by omega⟩
  exact p_goesD hd hq hw hL
