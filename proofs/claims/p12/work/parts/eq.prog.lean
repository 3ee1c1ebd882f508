/-! a program read alike -/
noncomputable def TLD (m : Nat → Nat → Int32) (W : Nat → Int32) (t L : Nat) : Prop := TLK m W ∧ W (376 + 103 * t + 22) = Int32.ofNat L ∧ W (376 + 103 * t + 21) = Int32.ofNat 0 ∧ t < nv W 9
noncomputable def dlo (K : Nat) : Nat := [0, 0, 0, 0, 0, 0, 1].getD K 0
noncomputable def dhi (K : Nat) : Nat := [3, 3, 31, 31, 999, 999, 9].getD K 0
theorem dhi_b : ∀ K, K < 7 → dhi K ≤ 999 ∧ (K ≤ 1 → dhi K ≤ 3) ∧ (K ≤ 3 → dhi K ≤ 31) ∧ dlo K ≤ 1 := by decide
theorem zla_d : ∀ K, K < 7 → (zla 2).getD K 0 = Int32.ofNat (dlo K) ∧ (zla 3).getD K 0 = Int32.ofNat (dhi K) := by
  intro K hK
  match K, hK with
  | 0, _ => exact ⟨rfl, rfl⟩
  | 1, _ => exact ⟨rfl, rfl⟩
  | 2, _ => exact ⟨rfl, rfl⟩
  | 3, _ => exact ⟨rfl, rfl⟩
  | 4, _ => exact ⟨rfl, rfl⟩
  | 5, _ => exact ⟨rfl, rfl⟩
  | 6, _ => exact ⟨rfl, rfl⟩
section ZPG
variable {T : Nat → Int32} {e p b t L : Nat} {m mm : Nat → Nat → Int32} {W : Nat → Int32}
/-- the world behind the kind of a deed -/
noncomputable def dd3 (W : Nat → Int32) (t L K : Nat) : Nat → Int32 := upd (upd (upd W (376 + 103 * t + (55 + 2 * L)) (Int32.ofNat K)) (376 + 103 * t + (55 + 2 * L) + 1) (Int32.ofNat 0)) (376 + 103 * t + 22) (Int32.ofNat (L + 1))
theorem deed_0 (hk : q_kindHere mm (q_letters mm p).1 (q_letters mm p).2 = -1) : q_readDeed mm W p t L = (Int32.ofNat 0, W, (q_letters mm p).1, (q_letters mm p).2) := by
  unfold q_readDeed
  rw [hk, show zc2 .eq (-1 : Int32) (-1) = true from by decide, cnT]
theorem deed_24 : (q_readDeed mm W p t 24).2.2.2 = (q_letters mm p).2 := by
  unfold q_readDeed
  rw [show zc2 .ne (Int32.ofNat 24) (Int32.ofNat 24) = false from by decide, cnF]
  cases zc2 .eq (q_kindHere mm (q_letters mm p).1 (q_letters mm p).2) (-1) with
  | true => rw [cnT]
  | false => rw [cnF]
theorem deed_K {K : Nat} (hk : q_kindHere mm (q_letters mm p).1 (q_letters mm p).2 = Int32.ofNat K) (hK : K < 7) (hL : L < 24) : q_readDeed mm W p t L = q_readTo mm (dd3 W t L K) (q_letters mm p).1 (376 + 103 * t + (55 + 2 * L) + 1) (Int32.ofNat (dlo K)) (Int32.ofNat (dhi K)) := by
  unfold q_readDeed
  rw [hk, zm_k K (by first | exact zq_adn (by decide) | exact zq_adr (zq_adn (by decide)) | omega), cnF, tne_tt (by first | exact zq_adn (by decide) | exact zq_adr (zq_adn (by decide)) | omega) (by first | exact zq_adn (by decide) | exact zq_adr (zq_adn (by decide)) | omega) (show L ≠ 24 by omega), cnT, nv_on (by first | exact zq_adn (by decide) | exact zq_adr (zq_adn (by decide)) | omega)]
  match K, hK with
  | 0, _ => rfl
  | 1, _ => rfl
  | 2, _ => rfl
  | 3, _ => rfl
  | 4, _ => rfl
  | 5, _ => rfl
  | 6, _ => rfl
theorem deed_7 (hk : q_kindHere mm (q_letters mm p).1 (q_letters mm p).2 = Int32.ofNat 7) (hL : L < 24) : q_readDeed mm W p t L = (Int32.ofNat 1, dd3 W t L 7, (q_letters mm p).1, (q_letters mm p).2) := by
  unfold q_readDeed
  rw [hk, zm_k 7 (by first | exact zq_adn (by decide) | exact zq_adr (zq_adn (by decide)) | omega), cnF, tne_tt (by first | exact zq_adn (by decide) | exact zq_adr (zq_adn (by decide)) | omega) (by first | exact zq_adn (by decide) | exact zq_adr (zq_adn (by decide)) | omega) (show L ≠ 24 by omega), cnT, nv_on (by first | exact zq_adn (by decide) | exact zq_adr (zq_adn (by decide)) | omega)]
  rfl
theorem dd3_ndd {K n : Nat} : upd (dd3 W t L K) (376 + 103 * t + (55 + 2 * L) + 1) (Int32.ofNat n) = ndd W t L K n := by
  funext c
  by_cases c1 : c = 376 + 103 * t + (55 + 2 * L) + 1
  · rw [c1, upd_at]
    exact ndd_n.symm
  · rw [upd_ne _ _ c1]
    unfold dd3 ndd
    by_cases c2 : c = 376 + 103 * t + 22
    · rw [c2, upd_at, upd_at]
    · rw [upd_ne _ _ c2, upd_ne _ _ c2, upd_ne _ _ c1, upd_ne (k := 376 + 103 * t + (55 + 2 * L + 1)) _ _ (by first | exact zq_adn (by decide) | exact zq_adr (zq_adn (by decide)) | omega)]
theorem TLD.next {K n : Nat} (h : TLD m W t L) (ht : t < 4) (hL : L < 24) (hK : K ≤ 7) (hn : n ≤ 999) (h1 : K ≤ 1 → n ≤ 3) (h3 : K ≤ 3 → n ≤ 31) : TLD (x_addDeed m 43 t (Int32.ofNat K) (Int32.ofNat n)) (ndd W t L K n) t (L + 1) := by
  obtain ⟨⟨a1, a2⟩, a3, a4, a5⟩ := h
  have nL : nv W (376 + 103 * t + 22) = L := by
    unfold nv
    rw [a3]
    exact nv_on (by first | exact zq_adn (by decide) | exact zq_adr (zq_adn (by decide)) | omega)
  refine ⟨⟨a1.dd1 a2.W.C ht a5 a3 hL, a2.dd1 ht nL hL a4 hK hn h1 h3⟩, ndd_22, (ndd_ne (by first | exact zq_adn (by decide) | exact zq_adr (zq_adn (by decide)) | omega)).trans a4, ?_⟩
  rw [nv_of (ndd_ne (by first | exact zq_adn (by decide) | exact zq_adr (zq_adn (by decide)) | omega))]
  exact a5
/-- a deed that is read: both fail at one place, or both go on with one more -/
noncomputable def TDP (t L : Nat) (X : Int32 × (Nat → Nat → Int32) × Nat × Nat) (Y : Int32 × (Nat → Int32) × Nat × Nat) : Prop := (X.1 = Int32.ofNat 0 ∧ Y.1 = Int32.ofNat 0 ∧ X.2.2.2 = Y.2.2.2) ∨ (X.1 = Int32.ofNat 1 ∧ Y.1 = Int32.ofNat 1 ∧ X.2.2.1 = Y.2.2.1 ∧ TLD X.2.1 Y.2.1 t (L + 1))
theorem deed_rx (h : PA T e mm) (hG : PG mm) (hp : p ≤ e) (ht : t < 4) (hL : L < 24) (hd : TLD m W t L) : TDP t L (y_readDeed T e m p t) (q_readDeed mm W p t L) := by
  have he := h.2.1
  have hl := zby_len 2 (by first | exact zq_adn (by decide) | exact zq_adr (zq_adn (by decide)) | omega)
  have l2 := letters_le (m := mm) (p := p) hG (by rw [h.1]; exact hp)
  rw [h.1] at l2
  have dK := fun K => deed_K (mm := mm) (p := p) (W := W) (t := t) (L := L) (K := K)
  have d7 := deed_7 (mm := mm) (p := p) (W := W) (t := t) (L := L)
  have d0 := deed_0 (mm := mm) (p := p) (W := W) (t := t) (L := L)
  unfold y_readDeed
  rw [name_eq h hp (by first | exact zq_adn (by decide) | exact zq_adr (zq_adn (by decide)) | omega)]
  generalize q_letters mm p = G at l2 dK d7 d0 ⊢
  dsimp only
  have hw := fun s (hs : s < 37) => ws_of h l2.2 l2.1 (s := s) hs
  rcases name2 (T := T) (p := G.1) (b := G.2) (by first | exact zq_adn (by decide) | exact zq_adr (zq_adn (by decide)) | omega) l2.2 with ⟨a1, a2⟩ | ⟨K, s, a1, a2, a3⟩
  · rw [d0 (kind_0 (fun s h1 h2 => (hw s (by first | exact zq_adn (by decide) | exact zq_adr (zq_adn (by decide)) | omega)).2 (a2 s h1 h2))), a1, show zc1 .lt (-1 : Int32) = true from by decide, cnT]
    exact Or.inl ⟨rfl, rfl, rfl⟩
  · have hs := ln2_b s (List.mem_of_getElem? a1)
    have hK : K < 8 := (List.getElem?_eq_some_iff.mp a1).1
    have kK := kind_K a1 ((hw s (by first | exact zq_adn (by decide) | exact zq_adr (zq_adn (by decide)) | omega)).1 ((a3 s hs.1 hs.2).trans (decide_eq_true rfl))) (fun u h1 h2 h3 => (hw u (by first | exact zq_adn (by decide) | exact zq_adr (zq_adn (by decide)) | omega)).2 ((a3 u h1 h2).trans (decide_eq_false h3)))
    have z : ∀ k, k < 8 → zc1 .lt (Int32.ofNat k) = false ∧ zc2 .le (Int32.ofNat k) (Int32.ofNat 7) = true := by decide +kernel
    rw [a2, (z K hK).1, (z K hK).2, cnF, cnT, nv_on (by first | exact zq_adn (by decide) | exact zq_adr (zq_adn (by decide)) | omega)]
    by_cases k7 : K = 7
    · subst k7
      rw [d7 kK hL, show zc2 .ne (Int32.ofNat 7) (Int32.ofNat 7) = false from by decide, cnF]
      refine Or.inr ⟨rfl, rfl, rfl, ?_⟩
      exact hd.next (n := 0) ht hL (by first | exact zq_adn (by decide) | exact zq_adr (zq_adn (by decide)) | omega) (by first | exact zq_adn (by decide) | exact zq_adr (zq_adn (by decide)) | omega) (by first | exact zq_adn (by decide) | exact zq_adr (zq_adn (by decide)) | omega) (by first | exact zq_adn (by decide) | exact zq_adr (zq_adn (by decide)) | omega)
    · obtain ⟨z1, z2⟩ := zla_d K (by first | exact zq_adn (by decide) | exact zq_adr (zq_adn (by decide)) | omega)
      obtain ⟨b1, b2, b3, b4⟩ := dhi_b K (by first | exact zq_adn (by decide) | exact zq_adr (zq_adn (by decide)) | omega)
      rw [dK K kK (by first | exact zq_adn (by decide) | exact zq_adr (zq_adn (by decide)) | omega) hL, tne_tt (by first | exact zq_adn (by decide) | exact zq_adr (zq_adn (by decide)) | omega) (by first | exact zq_adn (by decide) | exact zq_adr (zq_adn (by decide)) | omega) k7, cnT, z1, z2, number_eq h l2.1]
      unfold q_readTo
      have nk := number_k (m := mm) (p := G.1) (a := dlo K) (c := dhi K) (by first | exact zq_adn (by decide) | exact zq_adr (zq_adn (by decide)) | omega) (by first | exact zq_adn (by decide) | exact zq_adr (zq_adn (by decide)) | omega)
      generalize q_number mm G.1 (Int32.ofNat (dlo K)) (Int32.ofNat (dhi K)) = N at nk ⊢
      rw [zne2_n]
      cases hn : zc2 .eq N.1 (-1) with
      | true =>
        rw [Bool.not_true, cnF, cnT]
        exact Or.inl ⟨rfl, rfl, rfl⟩
      | false =>
        obtain ⟨n1, n2, -⟩ := nk (zeq_f hn)
        rw [Bool.not_false, cnT, cnF]
        refine Or.inr ⟨rfl, rfl, rfl, ?_⟩
        show TLD (x_addDeed m 43 t (Int32.ofNat K) N.1) (upd (dd3 W t L K) (376 + 103 * t + (55 + 2 * L) + 1) N.1) t (L + 1)
        rw [n1, dd3_ndd]
        exact hd.next ht hL (by first | exact zq_adn (by decide) | exact zq_adr (zq_adn (by decide)) | omega) (by first | exact zq_adn (by decide) | exact zq_adr (zq_adn (by decide)) | omega) (fun q => by have := b2 q; omega) (fun q => by have := b3 q; omega)
theorem deeds_rx (h : PA T e mm) (hG : PG mm) (ht : t < 4) : ∀ (n L : Nat) (m : Nat → Nat → Int32) (W : Nat → Int32) (p b : Nat), L + n = 24 → p ≤ e → TLD m W t L → TLP (yl_prog T e t n L m p b) (l_deeds mm t n L W p b) := by
  intro n
  induction n with
  | zero =>
    intro L m W p b hk hp hd
    obtain rfl : L = 24 := by omega
    rw [yl_prog, l_deeds]
    refine Or.inl ⟨rfl, rfl, ?_⟩
    show lkB T e p = (q_readDeed mm W p t 24).2.2.2
    rw [deed_24, lk_eq h hp]
    rfl
  | succ n ih =>
    intro L m W p b hk hp hd
    have hr := readDeed_le (m := mm) (W := W) (p := p) (t := t) (L := L) hG (by rw [h.1]; exact hp)
    have r := deed_rx h hG hp ht (by first | exact zq_adn (by decide) | exact zq_adr (zq_adn (by decide)) | omega) hd
    rw [yl_prog, l_deeds]
    unfold RB at hr
    rw [h.1] at hr
    generalize y_readDeed T e m p t = X at r ⊢
    generalize q_readDeed mm W p t L = Y at r hr ⊢
    rcases r with ⟨r1, r2, r3⟩ | ⟨r1, r2, r3, r4⟩
    · rw [r1, r2, zne0, cnF, cnF]
      exact Or.inl ⟨rfl, rfl, r3⟩
    · rw [r1, r2, zn1, cnT, cnT, r3, sign_eq h hr.1]
      dsimp only
      have hp2 := passes_le (m := mm) (p := Y.2.2.1) (c := 44) hG (by rw [h.1]; exact hr.1)
      rw [sign_eq h hr.1, h.1] at hp2
      cases zc1 .ne (y_skipSign T e (lkB T e Y.2.2.1) 44).1 with
      | true =>
        rw [cnT, cnT]
        exact ih _ _ _ _ _ (by first | exact zq_adn (by decide) | exact zq_adr (zq_adn (by decide)) | omega) hp2.1 r4
      | false =>
        rw [cnF, cnF]
        exact Or.inr ⟨rfl, rfl, rfl, r4.1⟩
theorem rclears_rx {W0 : Nat → Int32} {M : Nat → Nat → Int32} (h : PA T e mm) (hG : PG mm) (hp : p ≤ e) (ht : t < 4) (ht9 : nv W0 9 = t) (hk : TLK m W0) (eM : M = zm2 (x_clear m 43 t) 43 5 (Int32.ofNat (t + 1))) : ∀ (n k : Nat) (W : Nat → Int32), k + n = 103 → (∀ c, c < 376 + 103 * t ∨ 376 + 103 * t + 103 ≤ c → W c = W0 c) → (∀ c, c < k → W (376 + 103 * t + c) = Int32.ofNat 0) → TLP (yl_prog T e t 24 0 M p b) (l_rclears mm p b t n k W) := by
  intro n
  induction n with
  | zero =>
    intro k W hkn e0 hz
    have hz0 : ∀ c, c < 103 → upd W 9 (Int32.ofNat (t + 1)) (376 + 103 * t + c) = Int32.ofNat 0 := fun c hc => by rw [upd_ne _ _ (by first | exact zq_adn (by decide) | exact zq_adr (zq_adn (by decide)) | omega)]; exact hz c (by first | exact zq_adn (by decide) | exact zq_adr (zq_adn (by decide)) | omega)
    have e1 : ∀ c, c < 376 + 103 * t ∨ 376 + 103 * t + 103 ≤ c → c ≠ 9 → upd W 9 (Int32.ofNat (t + 1)) c = W0 c := fun c hc h9 => by rw [upd_ne _ _ h9]; exact e0 c hc
    rw [l_rclears]
    unfold q_thread37
    refine deeds_rx h hG ht 24 0 _ _ _ _ (by first | exact zq_adn (by decide) | exact zq_adr (zq_adn (by decide)) | omega) hp ⟨⟨?_, ?_⟩, hz0 22 (by first | exact zq_adn (by decide) | exact zq_adr (zq_adn (by decide)) | omega), hz0 21 (by first | exact zq_adn (by decide) | exact zq_adr (zq_adn (by decide)) | omega), ?_⟩
    · subst eM
      refine hk.1.fresh hk.2.W ht ht9 e1 (upd_at _ _ _) hz0 (fun i l hi hn => ?_) (zx_at _ _ _ _) (fun c hc => ?_)
      · rw [zx_o _ _ (by first | exact zq_adn (by decide) | exact zq_adr (zq_adn (by decide)) | omega)]
        exact clear_ne (by first | exact zq_adn (by decide) | exact zq_adr (zq_adn (by decide)) | omega)
      · have q := clear_c (m := m) (b := 43) (t := t) hc
        have hne : (cmT t c).1 ≠ 0 := by
          rw [cmT_0]
          have a := List.all_eq_true.mp cmT_sv c (List.mem_range.mpr (by first | exact zq_adn (by decide) | exact zq_adr (zq_adn (by decide)) | omega))
          rw [Bool.and_eq_true] at a
          have := Nat.le_of_ble_eq_true a.1
          dsimp only
          omega
        rw [zx_o _ _ (by first | exact zq_adn (by decide) | exact zq_adr (zq_adn (by decide)) | omega)]
        exact q
    · exact hk.2.fresh ht e1 (upd_at _ _ _) hz0
    · have : nv (upd W 9 (Int32.ofNat (t + 1))) 9 = t + 1 := by
        unfold nv
        rw [upd_at]
        exact nv_on (by first | exact zq_adn (by decide) | exact zq_adr (zq_adn (by decide)) | omega)
      omega
  | succ n ih =>
    intro k W hkn e0 hz
    rw [l_rclears]
    exact ih _ _ (by first | exact zq_adn (by decide) | exact zq_adr (zq_adn (by decide)) | omega) (fun c hc => by rw [upd_ne _ _ (by first | exact zq_adn (by decide) | exact zq_adr (zq_adn (by decide)) | omega)]; exact e0 c hc) (clr_step hz)
theorem thread_rx (h : PA T e mm) (hG : PG mm) (hp : p ≤ e) (hk : TLK m W) : TLP (y_readProgram T e m p b) (q_readThread mm W p b) := by
  have h4 := hk.2.W.N4
  have e9 : mv m 43 5 = nv W 9 := hk.1.n9
  unfold y_readProgram q_readThread
  rw [e9]
  by_cases h9 : nv W 9 = 4
  · rw [h9, show zc2 .lt (Int32.ofNat 4) (Int32.ofNat 4) = false from by decide, show zc2 .ne (Int32.ofNat 4) (Int32.ofNat 4) = false from by decide, cnF, cnF]
    exact Or.inl ⟨rfl, rfl, rfl⟩
  · rw [zclt (by first | exact zq_adn (by decide) | exact zq_adr (zq_adn (by decide)) | omega) (by first | exact zq_adn (by decide) | exact zq_adr (zq_adn (by decide)) | omega) (show nv W 9 < 4 by omega), tne_tt (by first | exact zq_adn (by decide) | exact zq_adr (zq_adn (by decide)) | omega) (by first | exact zq_adn (by decide) | exact zq_adr (zq_adn (by decide)) | omega) h9, cnT, cnT]
    exact rclears_rx h hG hp (by first | exact zq_adn (by decide) | exact zq_adr (zq_adn (by decide)) | omega) rfl hk rfl 103 0 W (by first | exact zq_adn (by decide) | exact zq_adr (zq_adn (by decide)) | omega) (fun _ _ => rfl) (fun c hc => absurd hc (Nat.not_lt_zero _))
/-- a line, alike -/
theorem line_rx (h : PA T e mm) (hG : PG mm) (hp : p ≤ e) (hk : TLK m W) : TLP (y_readLine T e m p) (q_readLine mm W (q_letters mm p).1 (q_letters mm p).2) := by
  have he := h.2.1
  have hl : (zby 0).length < 100000 := by have := zby_len 0 (by first | exact zq_adn (by decide) | exact zq_adr (zq_adn (by decide)) | omega); omega
  have l2 := letters_le (m := mm) (p := p) hG (by rw [h.1]; exact hp)
  rw [h.1] at l2
  unfold y_readLine
  rw [name_eq h hp hl]
  generalize q_letters mm p = G at l2 ⊢
  dsimp only
  have hw := fun s (hs : s < 37) => ws_of h l2.2 l2.1 (s := s) hs
  rcases name0 (T := T) (p := G.1) (b := G.2) (by first | exact zq_adn (by decide) | exact zq_adr (zq_adn (by decide)) | omega) l2.2 with ⟨a1, a2⟩ | ⟨K, s, a1, a2, a3⟩
  · rw [line_0 (fun s h1 h2 => (hw s (by first | exact zq_adn (by decide) | exact zq_adr (zq_adn (by decide)) | omega)).2 (a2 s h1 h2)), a1, show zc2 .eq (-1 : Int32) (-1) = true from by decide, cnT]
    exact Or.inl ⟨rfl, rfl, rfl⟩
  · have hs := ln0_b s (List.mem_of_getElem? a1)
    have hK : K < 14 := (List.getElem?_eq_some_iff.mp a1).1
    have hT := (hw s (by first | exact zq_adn (by decide) | exact zq_adr (zq_adn (by decide)) | omega)).1 ((a3 s hs.1 hs.2).trans (decide_eq_true rfl))
    have hF := fun u h1 h2 h3 => (hw u (by first | exact zq_adn (by decide) | exact zq_adr (zq_adn (by decide)) | omega)).2 ((a3 u h1 h2).trans (decide_eq_false h3))
    rw [a2, zm_k K hK, cnF, nv_on (by first | exact zq_adn (by decide) | exact zq_adr (zq_adn (by decide)) | omega)]
    clear a2 a3
    match K, a1 with
    | 0, a1 =>
      cases a1
      rw [line_25 hT hF]
      exact term_rx0 h l2.1 hk
    | 1, a1 => cases a1; rw [line_t (K := 1) (by first | exact zq_adn (by decide) | exact zq_adr (zq_adn (by decide)) | omega) (by first | exact zq_adn (by decide) | exact zq_adr (zq_adn (by decide)) | omega) hT hF]; exact term_rx1 h l2.1 (by first | exact zq_adn (by decide) | exact zq_adr (zq_adn (by decide)) | omega) (by first | exact zq_adn (by decide) | exact zq_adr (zq_adn (by decide)) | omega) hk
    | 2, a1 => cases a1; rw [line_t (K := 2) (by first | exact zq_adn (by decide) | exact zq_adr (zq_adn (by decide)) | omega) (by first | exact zq_adn (by decide) | exact zq_adr (zq_adn (by decide)) | omega) hT hF]; exact term_rx1 h l2.1 (by first | exact zq_adn (by decide) | exact zq_adr (zq_adn (by decide)) | omega) (by first | exact zq_adn (by decide) | exact zq_adr (zq_adn (by decide)) | omega) hk
    | 3, a1 => cases a1; rw [line_t (K := 3) (by first | exact zq_adn (by decide) | exact zq_adr (zq_adn (by decide)) | omega) (by first | exact zq_adn (by decide) | exact zq_adr (zq_adn (by decide)) | omega) hT hF]; exact term_rx1 h l2.1 (by first | exact zq_adn (by decide) | exact zq_adr (zq_adn (by decide)) | omega) (by first | exact zq_adn (by decide) | exact zq_adr (zq_adn (by decide)) | omega) hk
    | 4, a1 => cases a1; rw [line_t (K := 4) (by first | exact zq_adn (by decide) | exact zq_adr (zq_adn (by decide)) | omega) (by first | exact zq_adn (by decide) | exact zq_adr (zq_adn (by decide)) | omega) hT hF]; exact term_rx1 h l2.1 (by first | exact zq_adn (by decide) | exact zq_adr (zq_adn (by decide)) | omega) (by first | exact zq_adn (by decide) | exact zq_adr (zq_adn (by decide)) | omega) hk
    | 5, a1 => cases a1; rw [line_t (K := 5) (by first | exact zq_adn (by decide) | exact zq_adr (zq_adn (by decide)) | omega) (by first | exact zq_adn (by decide) | exact zq_adr (zq_adn (by decide)) | omega) hT hF]; exact term_rx1 h l2.1 (by first | exact zq_adn (by decide) | exact zq_adr (zq_adn (by decide)) | omega) (by first | exact zq_adn (by decide) | exact zq_adr (zq_adn (by decide)) | omega) hk
    | 6, a1 => cases a1; rw [line_t (K := 6) (by first | exact zq_adn (by decide) | exact zq_adr (zq_adn (by decide)) | omega) (by first | exact zq_adn (by decide) | exact zq_adr (zq_adn (by decide)) | omega) hT hF]; exact term_rx1 h l2.1 (by first | exact zq_adn (by decide) | exact zq_adr (zq_adn (by decide)) | omega) (by first | exact zq_adn (by decide) | exact zq_adr (zq_adn (by decide)) | omega) hk
    | 7, a1 => cases a1; rw [line_t (K := 7) (by first | exact zq_adn (by decide) | exact zq_adr (zq_adn (by decide)) | omega) (by first | exact zq_adn (by decide) | exact zq_adr (zq_adn (by decide)) | omega) hT hF]; exact term_rx1 h l2.1 (by first | exact zq_adn (by decide) | exact zq_adr (zq_adn (by decide)) | omega) (by first | exact zq_adn (by decide) | exact zq_adr (zq_adn (by decide)) | omega) hk
    | 8, a1 => cases a1; rw [line_24 hT hF]; exact trust_rx h l2.1 hk
    | 9, a1 => cases a1; rw [line_22 hT hF]; exact word_rx h hG l2.1 hk
    | 10, a1 =>
      cases a1
      rw [line_26 hT hF]
      exact Or.inr ⟨rfl, rfl, rfl, hk.1.globS hk.2.W.C (by first | exact zq_adn (by decide) | exact zq_adr (zq_adn (by decide)) | omega) (by first | exact zq_adn (by decide) | exact zq_adr (zq_adn (by decide)) | omega) (by first | exact zq_adn (by decide) | exact zq_adr (zq_adn (by decide)) | omega) (cm_3 (k := 8) (by first | exact zq_adn (by decide) | exact zq_adr (zq_adn (by decide)) | omega)), hk.2.term (k := 8) (n := 1) (by first | exact zq_adn (by decide) | exact zq_adr (zq_adn (by decide)) | omega) (by decide) (by decide)⟩
    | 11, a1 =>
      cases a1
      rw [line_27 hT hF]
      exact Or.inr ⟨rfl, rfl, rfl, hk.1.globS hk.2.W.C (by first | exact zq_adn (by decide) | exact zq_adr (zq_adn (by decide)) | omega) (by first | exact zq_adn (by decide) | exact zq_adr (zq_adn (by decide)) | omega) (by first | exact zq_adn (by decide) | exact zq_adr (zq_adn (by decide)) | omega) (cm_3 (k := 8) (by first | exact zq_adn (by decide) | exact zq_adr (zq_adn (by decide)) | omega)), hk.2.term (k := 8) (n := 0) (by first | exact zq_adn (by decide) | exact zq_adr (zq_adn (by decide)) | omega) (by decide) (by decide)⟩
    | 12, a1 => cases a1; rw [line_23 hT hF]; exact lock_rx h hG l2.1 hk
    | 13, a1 => cases a1; rw [line_21 hT]; exact thread_rx h hG l2.1 hk
    | k + 14, _ => exact absurd hK (by first | exact zq_adn (by decide) | exact zq_adr (zq_adn (by decide)) | omega)
end ZPG
