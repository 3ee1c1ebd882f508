/-! a line read alike -/
noncomputable def TLK (m : Nat → Nat → Int32) (W : Nat → Int32) : Prop := RC m 43 W ∧ WZ W
noncomputable def TLP (X : Int32 × (Nat → Nat → Int32) × Nat × Nat) (Y : Int32 × (Nat → Int32) × Nat × Nat) : Prop := (X.1 = Int32.ofNat 0 ∧ Y.1 = Int32.ofNat 0 ∧ X.2.2.2 = Y.2.2.2) ∨ (X.1 = Int32.ofNat 1 ∧ Y.1 = Int32.ofNat 1 ∧ X.2.2.1 = Y.2.2.1 ∧ TLK X.2.1 Y.2.1)
theorem zla_t : ∀ K, 1 ≤ K → K ≤ 7 → (zla 0).getD K 0 = q_leastOf K ∧ (zla 1).getD K 0 = q_mostOf K ∧ q_leastOf K = Int32.ofNat (trl K) ∧ q_mostOf K = Int32.ofNat (trh K) := by
  intro K h1 h7
  match K, h1, h7 with
  | 1, _, _ => exact ⟨rfl, rfl, rfl, rfl⟩
  | 2, _, _ => exact ⟨rfl, rfl, rfl, rfl⟩
  | 3, _, _ => exact ⟨rfl, rfl, rfl, rfl⟩
  | 4, _, _ => exact ⟨rfl, rfl, rfl, rfl⟩
  | 5, _, _ => exact ⟨rfl, rfl, rfl, rfl⟩
  | 6, _, _ => exact ⟨rfl, rfl, rfl, rfl⟩
  | 7, _, _ => exact ⟨rfl, rfl, rfl, rfl⟩
theorem zn_k : ∀ K, K < 8 → 1 ≤ K → zc1 .ne (Int32.ofNat K) = true := by decide +kernel
theorem zm_k : ∀ K, K < 14 → zc2 .eq (Int32.ofNat K) (-1) = false := by decide +kernel
section ZLN
variable {T : Nat → Int32} {e p b : Nat} {m mm : Nat → Nat → Int32} {W : Nat → Int32}
theorem term_rx1 {K : Nat} (h : PA T e mm) (hp : p ≤ e) (h1 : 1 ≤ K) (h7 : K ≤ 7) (hk : TLK m W) : TLP (y_readTerm T e m p b K) (rt1 (q_readTo mm W p K (q_leastOf K) (q_mostOf K))) := by
  obtain ⟨z1, z2, z3, z4⟩ := zla_t K h1 h7
  have hz := zn_k K (by omega) h1
  have hb := trh_16 K (by omega)
  have hb2 : trl K ≤ 16 := by
    have : ∀ k, k < 9 → trl k ≤ 16 := by decide
    exact this K (by omega)
  unfold y_readTerm q_readTo
  rw [hz, cnT, z1, z2, z3, z4, number_eq h hp]
  have nk := number_k (m := mm) (p := p) (a := trl K) (c := trh K) (by omega) (by omega)
  generalize q_number mm p (Int32.ofNat (trl K)) (Int32.ofNat (trh K)) = N at nk ⊢
  rw [zne2_n]
  cases hn : zc2 .eq N.1 (-1) with
  | true =>
    simp only [Bool.not_true, cnT, cnF, rt1, zeq0]
    exact Or.inl ⟨rfl, rfl, rfl⟩
  | false =>
    obtain ⟨n1, n2, n3⟩ := nk (zeq_f hn)
    simp only [Bool.not_false, cnT, cnF, rt1, zeq1']
    refine Or.inr ⟨rfl, rfl, rfl, ?_⟩
    show TLK (zm2 m (43 + 3) K N.1) (upd W K N.1)
    rw [n1]
    exact ⟨hk.1.globS hk.2.W.C (by omega) (by omega) (by omega) (cm_3 (by omega)), hk.2.term (by omega) n3 n2⟩
theorem term_rx0 (h : PA T e mm) (hp : p ≤ e) (hk : TLK m W) : TLP (y_readTerm T e m p b 0) (bif zc1 .ne (q_threads W) then (Int32.ofNat 0, W, p, b) else rt1 (q_readTo mm W p 0 (Int32.ofNat 1) (Int32.ofNat 8))) := by
  have g5 : m 43 5 = W 9 := hk.1.globR (k := 9) (o := 0) (s := 5) (by omega) (by omega) rfl
  have q9 : q_threads W = W 9 := rfl
  have h4 := hk.2.W.N4
  have z : ∀ n, n < 5 → zc1 .le (Int32.ofNat n) = !(zc1 .ne (Int32.ofNat n)) := by decide +kernel
  unfold y_readTerm q_readTo
  rw [zne0, cnF, g5, q9, hk.2.W.N, z _ (by omega), show (zla 0).getD 0 0 = Int32.ofNat 1 from rfl, show (zla 1).getD 0 0 = Int32.ofNat 8 from rfl, number_eq h hp]
  have nk := number_k (m := mm) (p := p) (a := 1) (c := 8) (by omega) (by omega)
  generalize q_number mm p (Int32.ofNat 1) (Int32.ofNat 8) = N at nk ⊢
  cases zc1 .ne (Int32.ofNat (nv W 9)) with
  | true =>
    simp only [Bool.not_true, cnT, cnF]
    exact Or.inl ⟨rfl, rfl, rfl⟩
  | false =>
    rw [zne2_n]
    cases hn : zc2 .eq N.1 (-1) with
    | true =>
      simp only [Bool.not_true, Bool.not_false, cnT, cnF, rt1, zeq0]
      exact Or.inl ⟨rfl, rfl, rfl⟩
    | false =>
      obtain ⟨n1, n2, n3⟩ := nk (zeq_f hn)
      simp only [Bool.not_false, cnT, cnF, rt1, zeq1']
      refine Or.inr ⟨rfl, rfl, rfl, ?_⟩
      show TLK (zm2 m (43 + 3) 0 N.1) (upd W 0 N.1)
      rw [n1]
      exact ⟨hk.1.globS hk.2.W.C (by omega) (by omega) (by omega) (cm_3 (by omega)), hk.2.term (by omega) n3 n2⟩
theorem trustL_rx {v : Int32} {x : Nat} (ev : v = Int32.ofNat x) (hx : x ≤ 15) (hv : zc2 .eq v (-1) = false) : ∀ (n l : Nat) (m : Nat → Nat → Int32) (W : Nat → Int32), l + n = 4 → TLK m W → (yl_readTrust v n l m).1 = Int32.ofNat 1 ∧ (l_readTrust v n l W).1 = Int32.ofNat 1 ∧ TLK (yl_readTrust v n l m).2 (l_readTrust v n l W).2 := by
  intro n
  induction n with
  | zero =>
    intro l m W _ h
    rw [l_readTrust, hv, cnF]
    exact ⟨rfl, rfl, h⟩
  | succ n ih =>
    intro l m W hk h
    rw [yl_readTrust, l_readTrust, hv, cnF]
    have hl : l < 4 := by omega
    have ec : cm (20 + l) = (5 + l, 1) := lt4 (P := fun l => cm (20 + l) = (5 + l, 1)) rfl rfl rfl rfl hl
    refine ih _ _ _ (by omega) ⟨h.1.lkS h.2.W.C (by omega) (by omega) (by omega) ec, ?_⟩
    rw [ev]
    exact h.2.trust hl hx
theorem trust_rx (h : PA T e mm) (hp : p ≤ e) (hk : TLK m W) : TLP (y_readTrust T e m p) (q_readTrust mm W p) := by
  unfold y_readTrust q_readTrust
  rw [number_eq h hp]
  have nk := number_k (m := mm) (p := p) (a := 0) (c := 15) (by omega) (by omega)
  generalize q_number mm p (Int32.ofNat 0) (Int32.ofNat 15) = N at nk ⊢
  rw [zne2_n]
  cases hn : zc2 .eq N.1 (-1) with
  | true =>
    rw [Bool.not_true, cnF]
    refine Or.inl ⟨rfl, ?_, rfl⟩
    show (l_readTrust N.1 4 0 W).1 = _
    rw [l_readTrust, hn, cnT]
  | false =>
    obtain ⟨n1, n2, -⟩ := nk (zeq_f hn)
    rw [Bool.not_false, cnT]
    obtain ⟨a1, a2, a3⟩ := trustL_rx n1 n2 hn 4 0 m W rfl hk
    exact Or.inr ⟨a1, a2, rfl, a3⟩
theorem word_rx (h : PA T e mm) (hG : PG mm) (hp : p ≤ e) (hk : TLK m W) : TLP (y_readWord T e m p) (q_readWordLine mm W p) := by
  have l1 := number_le (m := mm) (p := p) (lo := Int32.ofNat 0) (hi := Int32.ofNat 31) hG (by rw [h.1]; exact hp)
  rw [h.1] at l1
  unfold y_readWord q_readWordLine
  rw [number_eq h hp]
  have nk := number_k (m := mm) (p := p) (a := 0) (c := 31) (by omega) (by omega)
  generalize q_number mm p (Int32.ofNat 0) (Int32.ofNat 31) = N at nk l1 ⊢
  rw [number_eq h l1.2.1]
  have nj := number_k (m := mm) (p := N.2.1) (a := 0) (c := 9999) (by omega) (by omega)
  generalize q_number mm N.2.1 (Int32.ofNat 0) (Int32.ofNat 9999) = M at nj ⊢
  rw [zne2_n N.1, zne2_n M.1]
  cases hn : zc2 .eq N.1 (-1) with
  | true =>
    simp only [Bool.not_true, cnF]
    exact Or.inl ⟨rfl, rfl, rfl⟩
  | false =>
    obtain ⟨n1, n2, -⟩ := nk (zeq_f hn)
    cases hj : zc2 .eq M.1 (-1) with
    | true =>
      simp only [Bool.not_true, Bool.not_false, cnT, cnF]
      exact Or.inl ⟨rfl, rfl, rfl⟩
    | false =>
      obtain ⟨j1, j2, -⟩ := nj (zeq_f hj)
      simp only [Bool.not_false, cnT]
      refine Or.inr ⟨rfl, rfl, rfl, ?_⟩
      have hx : vx M.1 := ⟨_, j2, j1⟩
      have r1 := hk.1.globS (k := 32 + N.1.toNatClampNeg) (x := M.1) hk.2.W.C (by omega) (by omega) (by omega) (cm_w (by omega))
      have r2 := r1.globS (k := 64 + N.1.toNatClampNeg) (x := M.1) (WC_of (upd_ne _ _ (by omega)) hk.2.W.C) (by omega) (by omega) (by omega) (cm_t (by omega))
      exact ⟨r2, hk.2.word (by omega) hx⟩
theorem other_rx {l w : Int32} (hk : TLK m W) (hw : zc2 .eq w (-1) = false) : ∀ (n k : Nat), k + n = 4 → (xl_wordOther m 43 l w n k = Int32.ofNat 1 ∧ (l_readLock W l w n (Int32.ofNat 1) k).1 = Int32.ofNat 0) ∨ (xl_wordOther m 43 l w n k = Int32.ofNat 0 ∧ l_readLock W l w n (Int32.ofNat 1) k = (Int32.ofNat 1, upd W (16 + l.toNatClampNeg) w)) := by
  intro n
  induction n with
  | zero =>
    intro k _
    rw [xl_wordOther, l_readLock, zeq1', cnF]
    exact Or.inr ⟨rfl, rfl⟩
  | succ n ih =>
    intro k hkn
    have hk4 : k < 4 := by omega
    have ec : cm (16 + k) = (5 + k, 0) := lt4 (P := fun l => cm (16 + l) = (5 + l, 0)) rfl rfl rfl rfl hk4
    have g : m (43 + 5 + k) 0 = W (16 + k) := hk.1.lkR (by omega) (by omega) ec
    rw [xl_wordOther, l_readLock, zeq1', cnF, g, zne2_n]
    cases zc2 .eq (Int32.ofNat k) l with
    | true => rw [cnT, cnT]; exact ih (k + 1) (by omega)
    | false =>
      rw [cnF, cnF]
      cases zc2 .eq (W (16 + k)) w with
      | true =>
        rw [Bool.not_true, cnF, cnT]
        exact Or.inl ⟨rfl, (readLock_0 _ _).2⟩
      | false => rw [Bool.not_false, cnT, cnF]; exact ih (k + 1) (by omega)
theorem lock_rx (h : PA T e mm) (hG : PG mm) (hp : p ≤ e) (hk : TLK m W) : TLP (y_readLock T e m p) (q_readLock mm W p) := by
  have he := h.2.1
  have l1 := number_le (m := mm) (p := p) (lo := Int32.ofNat 0) (hi := Int32.ofNat 3) hG (by rw [h.1]; exact hp)
  rw [h.1] at l1
  unfold y_readLock q_readLock
  rw [number_eq h hp]
  have nk := number_k (m := mm) (p := p) (a := 0) (c := 3) (by omega) (by omega)
  generalize q_number mm p (Int32.ofNat 0) (Int32.ofNat 3) = N at nk l1 ⊢
  have hl := zby_len 1 (by omega)
  rw [name_eq h l1.2.1 (by omega)]
  have l2 := letters_le (m := mm) (p := N.2.1) hG (by rw [h.1]; exact l1.2.1)
  rw [h.1] at l2
  generalize q_letters mm N.2.1 = L at l2 ⊢
  dsimp only
  rw [name1 (by omega) l2.2, number_eq h l2.1]
  obtain ⟨w1, w2⟩ := ws_of h l2.2 l2.1 (s := 13) (by omega)
  have nj := number_k (m := mm) (p := L.1) (a := 0) (c := 31) (by omega) (by omega)
  generalize q_number mm L.1 (Int32.ofNat 0) (Int32.ofNat 31) = M at nj ⊢
  rw [zne2_n N.1]
  cases hn : zc2 .eq N.1 (-1) with
  | true =>
    simp only [Bool.not_true, cnT, cnF]
    exact Or.inl ⟨rfl, rfl, rfl⟩
  | false =>
    obtain ⟨n1, n2, -⟩ := nk (zeq_f hn)
    rw [Bool.not_false, cnF, cnT]
    cases hm : mtc T (zby 13) L.2 L.1 with
    | false =>
      rw [(w2 hm).2, cnF, show zc2 .ne (-1 : Int32) (-1) = false from by decide, cnF, cnF]
      exact Or.inl ⟨rfl, rfl, rfl⟩
    | true =>
      rw [(w1 hm).2, cnT, show zc2 .ne (Int32.ofNat 0) (-1) = true from by decide, cnT, cnT]
      cases hj : zc2 .eq M.1 (-1) with
      | true =>
        rw [cnT, cnT]
        exact Or.inl ⟨rfl, (readLock_0 _ _).2, rfl⟩
      | false =>
        obtain ⟨j1, j2, -⟩ := nj (zeq_f hj)
        rw [cnF, cnF]
        rcases other_rx (l := N.1) hk hj 4 0 rfl with ⟨a1, a2⟩ | ⟨a1, a2⟩
        · unfold x_isWordOfOther
          rw [a1, zeq1', cnF]
          exact Or.inl ⟨rfl, a2, rfl⟩
        · unfold x_isWordOfOther
          rw [a1, zeq0, cnT, a2]
          refine Or.inr ⟨rfl, rfl, rfl, ?_⟩
          have hl4 : N.1.toNatClampNeg < 4 := by omega
          have ec : cm (16 + N.1.toNatClampNeg) = (5 + N.1.toNatClampNeg, 0) := lt4 (P := fun l => cm (16 + l) = (5 + l, 0)) rfl rfl rfl rfl hl4
          show TLK (zm2 m (43 + 5 + N.1.toNatClampNeg) 0 M.1) (upd W (16 + N.1.toNatClampNeg) M.1)
          refine ⟨hk.1.lkS hk.2.W.C (by omega) (by omega) (by omega) ec, ?_⟩
          rw [j1]
          exact hk.2.lockw hl4 j2
end ZLN
