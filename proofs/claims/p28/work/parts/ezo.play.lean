/-! a part played on both sides -/
section ZPY
variable {m M m' M' : Nat → Nat → Int32} {W : Nat → Int32} {b t K q : Nat}
/-- the outputs so far are those that came out -/
def oGD (W : Nat → Int32) (b : Nat) (M : Nat → Nat → Int32) : Prop := (M 143 (b + 40)).toNatClampNeg ≤ nv W 14 ∧ ∀ k, k < 2 * (M 143 (b + 40)).toNatClampNeg → M 143 (b + 41 + k) = W (96 + k)
/-- they can't come out so any more -/
def oBD (W : Nat → Int32) (b : Nat) (M : Nat → Nat → Int32) : Prop := nv W 14 < (M 143 (b + 40)).toNatClampNeg ∨ ∃ k, k < 2 * (M 143 (b + 40)).toNatClampNeg ∧ k < 40 ∧ M 143 (b + 41 + k) ≠ W (96 + k)
/-- a state of the search, alike on both sides -/
def oSR (W : Nat → Int32) (b : Nat) (m M : Nat → Nat → Int32) : Prop := (∀ w, w < 32 → m 132 w = M 143 (b + w)) ∧ (∀ u, u < nv W 9 → m 135 u = M 143 (b + 32 + u)) ∧ (∀ u, u < nv W 9 → m 134 u = M 143 (b + 36 + u)) ∧ m 131 6 = M 143 (b + 40) ∧ oGD W b M
theorem oGD.of {b' : Nat} (h : oGD W b M) (hO : OL M b) (e : ∀ c, 40 ≤ c → c < 81 → M' 143 (b' + c) = M 143 (b + c)) : oGD W b' M' := by
  have h20 := hO.2
  have e40 := e 40 (by omega) (by omega)
  unfold oGD at *
  rw [e40]
  refine ⟨h.1, fun k hk => ?_⟩
  rw [show b' + 41 + k = b' + (41 + k) by omega, e (41 + k) (by omega) (by omega), show b + (41 + k) = b + 41 + k by omega]
  exact h.2 k hk
theorem oBD.of {b' : Nat} (h : oBD W b M) (e : ∀ c, 40 ≤ c → c < 81 → M' 143 (b' + c) = M 143 (b + c)) : oBD W b' M' := by
  have e40 := e 40 (by omega) (by omega)
  unfold oBD at *
  rw [e40]
  rcases h with h | ⟨k, h1, h2, h3⟩
  · exact Or.inl h
  · refine Or.inr ⟨k, h1, h2, ?_⟩
    rw [show b' + 41 + k = b' + (41 + k) by omega, e (41 + k) (by omega) (by omega), show b + (41 + k) = b + 41 + k by omega]
    exact h3
theorem oSR.of {b' : Nat} (s : oSR W b m M) (hO : OL M b) (hN : nv W 9 ≤ 4) (e : ∀ c, c < 81 → M' 143 (b' + c) = M 143 (b + c)) (f : ∀ i l, i = 132 ∨ i = 134 ∨ i = 135 ∨ (i = 131 ∧ l = 6) → m' i l = m i l) : oSR W b' m' M' := by
  refine ⟨fun w hw => ?_, fun u hu => ?_, fun u hu => ?_, ?_, s.2.2.2.2.of hO (fun c _ h => e c h)⟩
  · rw [f 132 w (by omega), s.1 w hw, e w (by omega)]
  · rw [f 135 u (by omega), s.2.1 u hu, show b' + 32 + u = b' + (32 + u) by omega, e (32 + u) (by omega), show b + (32 + u) = b + 32 + u by omega]
  · rw [f 134 u (by omega), s.2.2.1 u hu, show b' + 36 + u = b' + (36 + u) by omega, e (36 + u) (by omega), show b + (36 + u) = b + 36 + u by omega]
  · rw [f 131 6 (by omega), s.2.2.2.1, e 40 (by omega)]
theorem oGD.put {c : Nat} {x : Int32} (h : oGD W b M) (hc : c < b + 40) : oGD W b (zm2 M 143 c x) := by
  unfold oGD at *
  rw [zm2_k _ _ (by omega)]
  refine ⟨h.1, fun k hk => ?_⟩
  rw [zm2_k _ _ (by omega)]
  exact h.2 k hk
theorem oBD.put {c : Nat} {x : Int32} (h : oBD W b M) (hc : c < b + 40) : oBD W b (zm2 M 143 c x) := h.of (fun l h1 _ => zm2_k _ _ (by omega))
theorem oSR.word {w : Nat} {x : Int32} (s : oSR W b m M) (hN : nv W 9 ≤ 4) (hw : w < 32) : oSR W b (zm2 m 132 w x) (zm2 M 143 (b + w) x) := by
  refine ⟨fun k hk => ?_, fun u hu => ?_, fun u hu => ?_, ?_, s.2.2.2.2.put (by omega)⟩
  · by_cases e : k = w
    · subst e
      rw [zx_at, zm2_a]
    · rw [zx_nk _ _ e, zm2_k _ _ (by omega)]
      exact s.1 k hk
  · rw [zx_ne _ _ _ (by omega), zm2_k _ _ (by omega)]
    exact s.2.1 u hu
  · rw [zx_ne _ _ _ (by omega), zm2_k _ _ (by omega)]
    exact s.2.2.1 u hu
  · rw [zx_ne _ _ _ (by omega), zm2_k _ _ (by omega)]
    exact s.2.2.2.1
theorem oSR.sum {x : Int32} (s : oSR W b m M) (hN : nv W 9 ≤ 4) (ht : t < 4) : oSR W b (zm2 m 135 t x) (zm2 M 143 (b + 32 + t) x) := by
  refine ⟨fun k hk => ?_, fun u hu => ?_, fun u hu => ?_, ?_, s.2.2.2.2.put (by omega)⟩
  · rw [zx_ne _ _ _ (by omega), zm2_k _ _ (by omega)]
    exact s.1 k hk
  · by_cases e : u = t
    · subst e
      rw [zx_at, zm2_a]
    · rw [zx_nk _ _ e, zm2_k _ _ (by omega)]
      exact s.2.1 u hu
  · rw [zx_ne _ _ _ (by omega), zm2_k _ _ (by omega)]
    exact s.2.2.1 u hu
  · rw [zx_ne _ _ _ (by omega), zm2_k _ _ (by omega)]
    exact s.2.2.2.1
theorem oSR.place {x : Int32} (s : oSR W b m M) (hN : nv W 9 ≤ 4) (ht : t < 4) : oSR W b (zm2 m 134 t x) (zm2 M 143 (b + 36 + t) x) := by
  refine ⟨fun k hk => ?_, fun u hu => ?_, fun u hu => ?_, ?_, s.2.2.2.2.put (by omega)⟩
  · rw [zx_ne _ _ _ (by omega), zm2_k _ _ (by omega)]
    exact s.1 k hk
  · rw [zx_ne _ _ _ (by omega), zm2_k _ _ (by omega)]
    exact s.2.1 u hu
  · by_cases e : u = t
    · subst e
      rw [zx_at, zm2_a]
    · rw [zx_nk _ _ e, zm2_k _ _ (by omega)]
      exact s.2.2.1 u hu
  · rw [zx_ne _ _ _ (by omega), zm2_k _ _ (by omega)]
    exact s.2.2.2.1
theorem puts_v {O : Nat} (h20 : O < 20) (ht : t < 4) : q_putsWhole M b t O 143 (b + 40) = Int32.ofNat (O + 1) ∧ q_putsWhole M b t O 143 (b + 41 + 2 * O) = Int32.ofNat t ∧ q_putsWhole M b t O 143 (b + 41 + (2 * O + 1)) = M 143 (b + 32 + t) ∧ ∀ c, c ≠ b + 40 → c ≠ b + 41 + 2 * O → c ≠ b + 41 + (2 * O + 1) → q_putsWhole M b t O 143 c = M 143 c := by
  unfold q_putsWhole
  rw [tne_tt (by omega) (by omega) (by omega), cnT]
  refine ⟨zm2_a _ _ _ _, ?_, ?_, fun c h1 h2 h3 => ?_⟩
  · rw [zm2_k _ _ (by omega), zm2_k _ _ (by omega), zm2_a]
  · rw [show b + 41 + (2 * O + 1) = b + 41 + 2 * O + 1 by omega, zm2_k _ _ (by omega), zm2_a, zm2_k _ _ (by omega)]
  · rw [zm2_k _ _ h1, zm2_k _ _ (by omega), zm2_k _ _ h2]
theorem puts_20 : q_putsWhole M b t 20 = M := by
  unfold q_putsWhole
  rw [tne_ff rfl, cnF]
/-- once wrong, wrong for good -/
theorem odeed_bd (h : oBD W b M) (hO : OL M b) (hW : WG W) (ht : t < 4) (hK : K ≤ 7) (k1 : K ≤ 1 → q ≤ 3) (k3 : K ≤ 3 → q ≤ 31) : oBD W b (q_wdoDeed M W b t K q).2 := by
  have hl : q ≤ 3 → nv W (16 + q) ≤ 31 := fun h => (hW.1.2.2.2.2.2.2 q (by omega)).2.2
  match K, hK, k1, k3 with
  | 0, _, k1, _ =>
    have := hl (k1 (by omega))
    show oBD W b (q_wdo0 M b t q (nv W (16 + q))).2
    unfold q_wdo0
    exact cndi (fun X : Int32 × (Nat → Nat → Int32) => oBD W b X.2) (h.put (by omega)) h
  | 1, _, k1, _ =>
    have := hl (k1 (by omega))
    exact oBD.put h (by omega)
  | 2, _, _, _ => exact oBD.put h (by omega)
  | 3, _, _, k3 =>
    have := k3 (by omega)
    exact oBD.put h (by omega)
  | 4, _, _, _ => exact oBD.put h (by omega)
  | 5, _, _, _ => exact oBD.put h (by omega)
  | 6, _, _, _ => exact h
  | 7, _, _, _ =>
    obtain ⟨o1, o2⟩ := hO
    show oBD W b (q_putsWhole M b t (M 143 (b + 40)).toNatClampNeg)
    unfold oBD at h
    revert h o1 o2
    generalize (M 143 (b + 40)).toNatClampNeg = O
    intro h o1 o2
    by_cases e : O = 20
    · subst e
      rw [puts_20]
      unfold oBD
      rw [o1, nv_on (by omega)]
      exact h
    · obtain ⟨p1, -, -, p4⟩ := puts_v (M := M) (b := b) (t := t) (O := O) (by omega) ht
      unfold oBD
      rw [p1, nv_on (by omega)]
      rcases h with h | ⟨k, h1, h2, h3⟩
      · exact Or.inl (by omega)
      · refine Or.inr ⟨k, by omega, h2, ?_⟩
        rw [p4 _ (by omega) (by omega) (by omega)]
        exact h3
  | k + 8, h, _, _ => exact absurd h (by omega)
/-- what a deed comes to: alike; or not to be gone on with -/
def oDD (W : Nat → Int32) (b : Nat) (X Y : Int32 × (Nat → Nat → Int32)) : Prop := (X.1 = Int32.ofNat 1 ∧ Y.1 = Int32.ofNat 1 ∧ oSR W b X.2 Y.2) ∨ (X.1 = Int32.ofNat 0 ∧ (Y.1 = Int32.ofNat 0 ∨ oBD W b Y.2))
theorem out_sr (h : LW m W) (s : oSR W b m M) (hO : OL M b) (ht : t < nv W 9) (ht4 : t < 4) : oDD W b (x_playOutput m t (m 135 t)) (Int32.ofNat 1, q_putsWhole M b t (M 143 (b + 40)).toNatClampNeg) := by
  have hN := h.1.2.W.N4
  have k14 := h.1.2.W.1.2.2.2.2.1
  have e12 : m 1 12 = Int32.ofNat (nv W 14) := (h.1.1.globR (k := 14) (o := 0) (s := 12) (by omega) (by omega) rfl).trans k14.1
  have h14 := k14.2.2
  obtain ⟨o1, o2⟩ := hO
  have e6 : m 131 6 = Int32.ofNat (M 143 (b + 40)).toNatClampNeg := s.2.2.2.1.trans o1
  have es : m 135 t = M 143 (b + 32 + t) := s.2.1 t ht
  have gd := s.2.2.2.2
  unfold oGD at gd
  unfold x_playOutput
  rw [e6, e12, es]
  revert o1 o2 e6 gd
  generalize (M 143 (b + 40)).toNatClampNeg = O
  intro o1 o2 e6 gd
  rw [c1lt (by omega), cnF, nv_on (by omega)]
  by_cases e : O = 20
  · subst e
    rw [zclt_f (by omega) (by omega) (by omega), cnF, puts_20]
    exact Or.inl ⟨rfl, rfl, s⟩
  · obtain ⟨p1, p2, p3, p4⟩ := puts_v (M := M) (b := b) (t := t) (O := O) (by omega) ht4
    rw [zclt (by omega) (by omega) (by omega), cnT]
    by_cases hb : nv W 14 ≤ O
    · rw [zcge (by omega) (by omega) hb, cnT]
      refine Or.inr ⟨rfl, Or.inr (Or.inl ?_)⟩
      show nv W 14 < (q_putsWhole M b t O 143 (b + 40)).toNatClampNeg
      rw [p1, nv_on (by omega)]
      omega
    · rw [zcge_f (by omega) (by omega) (by omega), cnF]
      obtain ⟨c1, c2⟩ := cm_o (k := O) (by omega)
      have g1 : m (1 + 38) O = W (96 + 2 * O) := h.1.1.globR (by omega) (by omega) c1
      have g2 : m (1 + 39) O = W (96 + 2 * O + 1) := h.1.1.globR (by omega) (by omega) c2
      rw [g1, g2]
      cases n1 : zc2 .ne (W (96 + 2 * O)) (Int32.ofNat t) with
      | true =>
        rw [cnT]
        refine Or.inr ⟨rfl, Or.inr (Or.inr ⟨2 * O, ?_, by omega, ?_⟩)⟩
        · show 2 * O < 2 * (q_putsWhole M b t O 143 (b + 40)).toNatClampNeg
          rw [p1, nv_on (by omega)]
          omega
        · show q_putsWhole M b t O 143 (b + 41 + 2 * O) ≠ W (96 + 2 * O)
          rw [p2]
          have z1 : ¬ W (96 + 2 * O) = Int32.ofNat t := of_decide_eq_true n1
          exact fun q => z1 q.symm
      | false =>
        rw [cnF]
        have z1 : ¬ ¬ W (96 + 2 * O) = Int32.ofNat t := of_decide_eq_false n1
        have w1 : W (96 + 2 * O) = Int32.ofNat t := Classical.byContradiction z1
        cases n2 : zc2 .eq (W (96 + 2 * O + 1)) (M 143 (b + 32 + t)) with
        | false =>
          rw [cnF]
          refine Or.inr ⟨rfl, Or.inr (Or.inr ⟨2 * O + 1, ?_, by omega, ?_⟩)⟩
          · show 2 * O + 1 < 2 * (q_putsWhole M b t O 143 (b + 40)).toNatClampNeg
            rw [p1, nv_on (by omega)]
            omega
          · show q_putsWhole M b t O 143 (b + 41 + (2 * O + 1)) ≠ W (96 + (2 * O + 1))
            rw [p3]
            have z2 : ¬ W (96 + 2 * O + 1) = M 143 (b + 32 + t) := of_decide_eq_false n2
            exact fun q => z2 q.symm
        | true =>
          rw [cnT]
          have w2 : W (96 + 2 * O + 1) = M 143 (b + 32 + t) := of_decide_eq_true n2
          refine Or.inl ⟨rfl, rfl, ?_⟩
          show oSR W b (zm2 m 131 6 (Int32.ofNat O + Int32.ofNat 1)) (q_putsWhole M b t O)
          rw [i_add]
          refine ⟨fun k hk => ?_, fun u hu => ?_, fun u hu => ?_, ?_, ?_⟩
          · rw [zx_ne _ _ _ (by omega), p4 _ (by omega) (by omega) (by omega)]
            exact s.1 k hk
          · rw [zx_ne _ _ _ (by omega), p4 _ (by omega) (by omega) (by omega)]
            exact s.2.1 u hu
          · rw [zx_ne _ _ _ (by omega), p4 _ (by omega) (by omega) (by omega)]
            exact s.2.2.1 u hu
          · rw [zx_at, p1]
          · unfold oGD
            rw [p1, nv_on (by omega)]
            refine ⟨by omega, fun k hk => ?_⟩
            by_cases k1 : k = 2 * O
            · rw [k1, p2, w1]
            · by_cases k2 : k = 2 * O + 1
              · rw [k2, p3]
                exact w2.symm
              · rw [p4 _ (by omega) (by omega) (by omega)]
                exact gd.2 k (by omega)
theorem deed_sr (h : LW m W) (s : oSR W b m M) (hO : OL M b) (ht : t < nv W 9) (ht4 : t < 4) (hK : K ≤ 7) (k1 : K ≤ 1 → q ≤ 3) (k3 : K ≤ 3 → q ≤ 31) : oDD W b (x_playDeed m t K q) (q_wdoDeed M W b t K q) := by
  have hN := h.1.2.W.N4
  have hl : q ≤ 3 → nv W (16 + q) ≤ 31 ∧ mv m (1 + 5 + q) 0 = nv W (16 + q) := by
    intro hq
    refine ⟨(h.1.2.W.1.2.2.2.2.2.2 q (by omega)).2.2, ?_⟩
    have e : m (1 + (5 + q)) 0 = W (16 + q) := h.1.1.globR (by omega) (by omega) (cm_16 (by omega))
    unfold mv nv
    rw [Nat.add_assoc 1 5 q, e]
  have es : m 135 t = M 143 (b + 32 + t) := s.2.1 t ht
  match K, hK, k1, k3 with
  | 0, _, k1, _ =>
    obtain ⟨l1, l2⟩ := hl (k1 (by omega))
    have e1 := s.1 (nv W (16 + q)) (by omega)
    show oDD W b (x_pd0 m t q) (q_wdo0 M b t q (nv W (16 + q)))
    unfold x_pd0 q_wdo0
    rw [l2, e1, show b + 0 + nv W (16 + q) = b + nv W (16 + q) from rfl]
    cases zc1 .eq (M 143 (b + nv W (16 + q))) with
    | true => exact Or.inl ⟨rfl, rfl, s.word hN (by omega)⟩
    | false => exact Or.inr ⟨rfl, Or.inl rfl⟩
  | 1, _, k1, _ =>
    obtain ⟨l1, l2⟩ := hl (k1 (by omega))
    show oDD W b (x_pd1 m t q) (q_wdo1 M b t q (nv W (16 + q)))
    unfold x_pd1 q_wdo1
    rw [l2, show b + 0 + nv W (16 + q) = b + nv W (16 + q) from rfl]
    exact Or.inl ⟨rfl, rfl, s.word hN (by omega)⟩
  | 2, _, _, k3 =>
    have e1 := s.1 q (by have := k3 (by omega); omega)
    show oDD W b (x_pd2 m t q) (q_wdo2 M b t q)
    unfold x_pd2 q_wdo2
    rw [e1, show b + 0 + q = b + q from rfl]
    exact Or.inl ⟨rfl, rfl, s.sum hN ht4⟩
  | 3, _, _, k3 =>
    have q31 := k3 (by omega)
    show oDD W b (x_pd3 m t q) (q_wdo3 M b t q)
    unfold x_pd3 q_wdo3
    rw [es, show b + 0 + q = b + q from rfl]
    exact Or.inl ⟨rfl, rfl, s.word hN (by omega)⟩
  | 4, _, _, _ => exact Or.inl ⟨rfl, rfl, s.sum hN ht4⟩
  | 5, _, _, _ =>
    show oDD W b (x_pd5 m t q) (q_wdo5 M b t q)
    unfold x_pd5 q_wdo5
    rw [es]
    exact Or.inl ⟨rfl, rfl, s.sum hN ht4⟩
  | 6, _, _, _ => exact Or.inl ⟨rfl, rfl, s⟩
  | 7, _, _, _ => exact out_sr h s hO ht ht4
  | k + 8, h, _, _ => exact absurd h (by omega)
theorem playL_0 : ∀ (n p : Nat) (M : Nat → Nat → Int32), (l_playL W b t n (Int32.ofNat 0) p M).1 = Int32.ofNat 0 := by
  intro n p M
  cases n with
  | zero => rfl
  | succ n => rw [l_playL, zeq0, cnT]
theorem playL_bd {q : Nat} (hW : WG W) (ht : t < 4) (hq : q ≤ 24) : ∀ (n : Nat) (is : Int32) (p : Nat) (M : Nat → Nat → Int32), p + n = q → OL M (b + 81) → oBD W (b + 81) M → oBD W (b + 81) (l_playL W b t n is p M).2.2 := by
  intro n
  induction n with
  | zero => intro is p M _ _ h; exact h
  | succ n ih =>
    intro is p M hk hO h
    rw [l_playL]
    have hD := hW.D ht (p := p) (by omega)
    exact cndi (fun X : Int32 × Nat × (Nat → Nat → Int32) => oBD W (b + 81) X.2.2) h (ih _ _ _ (by omega) (wdo_ok hO ht hW hD.1 hD.2.1 hD.2.2).1 (odeed_bd h hO hW ht hD.1 hD.2.1 hD.2.2))
/-- what a part comes to -/
theorem playL_sr {en : Nat} (ht : t < nv W 9) (ht4 : t < 4) (hen : en ≤ nv W (376 + 103 * t + 22)) : ∀ (n k : Nat) (m M : Nat → Nat → Int32), k + n = en → LW m W → oSR W (b + 81) m M → OL M (b + 81) → oDD W (b + 81) (xl_playPL t en n k m) ((l_playL W b t n (Int32.ofNat 1) k M).1, (bif zc1 .eq (l_playL W b t n (Int32.ofNat 1) k M).1 then (l_playL W b t n (Int32.ofNat 1) k M).2.2 else zm2 (l_playL W b t n (Int32.ofNat 1) k M).2.2 143 (b + 81 + 36 + t) (Int32.ofNat en))) := by
  intro n
  induction n with
  | zero =>
    intro k m M hk h s hO
    show oDD W (b + 81) (Int32.ofNat 1, zm2 m 134 t (Int32.ofNat en)) (Int32.ofNat 1, bif zc1 .eq (Int32.ofNat 1) then M else zm2 M 143 (b + 81 + 36 + t) (Int32.ofNat en))
    rw [zeq1', cnF]
    exact Or.inl ⟨rfl, rfl, s.place h.1.2.W.N4 ht4⟩
  | succ n ih =>
    intro k m M hk h s hO
    have h24 := (h.1.2.W.2 t ht4).2.2.2.1.2.2
    obtain ⟨d1, d2, -, -⟩ := dk_w h ht ht4 (k := k) (by omega)
    have hD := h.1.2.W.D ht4 (p := k) (by omega)
    have dd := deed_sr (K := nv W (376 + 103 * t + (55 + 2 * k))) (q := nv W (376 + 103 * t + (55 + 2 * k + 1))) h s hO ht ht4 hD.1 hD.2.1 hD.2.2
    have po : PDo m (x_playDeed m t (nv W (376 + 103 * t + (55 + 2 * k))) (nv W (376 + 103 * t + (55 + 2 * k + 1)))) := playDeed_o
    have wo := wdo_ok (t := t) hO ht4 h.1.2.W hD.1 hD.2.1 hD.2.2
    rw [xl_playPL, l_playL, d1, d2, zeq1', cnF]
    generalize x_playDeed m t (nv W (376 + 103 * t + (55 + 2 * k))) (nv W (376 + 103 * t + (55 + 2 * k + 1))) = X at dd po ⊢
    generalize q_wdoDeed M W (b + 81) t (nv W (376 + 103 * t + (55 + 2 * k))) (nv W (376 + 103 * t + (55 + 2 * k + 1))) = Y at dd wo ⊢
    rcases dd with ⟨a1, a2, a3⟩ | ⟨a1, a2⟩
    · rw [a1, zn1, cnT, a2]
      exact ih (k + 1) X.2 Y.2 (by omega) (h.far (fun i l h1 h2 => po.low i l (by omega))) a3 wo.1
    · rw [a1, zne0, cnF]
      rcases a2 with a2 | a2
      · rw [a2]
        exact Or.inr ⟨rfl, Or.inl (playL_0 _ _ _)⟩
      · have g := playL_bd (t := t) (q := en) h.1.2.W ht4 (by omega) n Y.1 (k + 1) Y.2 (by omega) wo.1 a2
        refine Or.inr ⟨rfl, Or.inr ?_⟩
        exact cndi (fun V : Nat → Nat → Int32 => oBD W (b + 81) V) g (g.put (by omega))
end ZPY
