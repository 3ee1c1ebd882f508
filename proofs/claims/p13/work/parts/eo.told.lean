/-! what a text changes: worlds in order, both sides alike -/
noncomputable def trl (k : Nat) : Nat := [1, 1, 1, 1, 0, 0, 0, 1, 0].getD k 0
noncomputable def trh (k : Nat) : Nat := [8, 9, 4, 8, 16, 9, 15, 9, 1].getD k 0
theorem WZ.W {W : Nat → Int32} (h : WZ W) : WG W := h.1.1.W
theorem WZ.gen {W : Nat → Int32} {k : Nat} {x : Int32} (h : WZ W) (hk : k < 376) (hw : WG (upd W k x)) (h5 : k ≠ 5 ∧ k ≠ 6 ∧ k ≠ 8 ∧ ¬ (20 ≤ k ∧ k < 24)) (h11 : k ≠ 11 ∧ k ≠ 12) (hv : 32 ≤ k → k < 64 → vx x) : WZ (upd W k x) :=
  ⟨⟨WX.mk hw (h.1.1.1.2.2.2.of (fun j hj => upd_ne _ _ (by omega))) (h.1.1.2.1.of (upd_ne _ _ (by omega))) (h.1.1.2.2.1.of (upd_ne _ _ (by omega))) (fun t ht => (h.1.1.T ht).of h.W ht (fun c hc _ => upd_ne _ _ (by omega))), h.1.2.put (fun q => by
    rcases q with q | ⟨t, c, ht, q, _⟩
    · exact hv q.1 q.2
    · omega)⟩, LT_eq h.2.1 (upd_ne _ _ (by omega)), ok.of h.2.2 (upd_ne _ _ (by omega))⟩
theorem trh_16 : ∀ k, k < 9 → trh k ≤ 16 := by decide
theorem WZ.term {W : Nat → Int32} {k n : Nat} (h : WZ W) (hk : k ≤ 8) (hl : trl k ≤ n) (hh : n ≤ trh k) : WZ (upd W k (Int32.ofNat n)) := by
  have hn : n ≤ 16 := Nat.le_trans hh (trh_16 k (by omega))
  have o0 : ∀ j lo hi, k = j → trl j = lo → trh j = hi → ok (upd W k (Int32.ofNat n)) k lo hi := fun j lo hi e e1 e2 => by
    subst e; subst e1; subst e2
    exact ok.is (upd_at _ _ _) hl hh (by omega)
  have hw : WG (upd W k (Int32.ofNat n)) := h.W.low (by omega) (fun e => o0 0 1 8 e rfl rfl) (fun e => o0 2 1 4 e rfl rfl) (fun e => o0 7 1 9 e rfl rfl) (fun e => by omega) (by omega) (fun _ _ => by omega)
  have o1 : ∀ j lo hi, ok W j lo hi → trl j = lo → trh j = hi → ok (upd W k (Int32.ofNat n)) j lo hi := fun j lo hi q e1 e2 => by
    by_cases e : k = j
    · subst e
      exact o0 k lo hi rfl e1 e2
    · exact q.of (upd_ne _ _ (fun q => e q.symm))
  exact ⟨⟨WX.mk hw ⟨o1 6 0 15 h.1.1.1.2.2.2.1 rfl rfl, fun l hl => (h.1.1.1.2.2.2.2 l hl).of (upd_ne _ _ (by omega))⟩ (o1 5 0 9 h.1.1.2.1 rfl rfl) (o1 8 0 1 h.1.1.2.2.1 rfl rfl) (fun t ht => (h.1.1.T ht).of h.W ht (fun c hc _ => upd_ne _ _ (by omega))), h.1.2.pg (by omega) (by omega)⟩, LT_eq h.2.1 (upd_ne _ _ (by omega)), ok.of h.2.2 (upd_ne _ _ (by omega))⟩
theorem WZ.trust {W : Nat → Int32} {l n : Nat} (h : WZ W) (hl : l < 4) (hn : n ≤ 15) : WZ (upd W (20 + l) (Int32.ofNat n)) := by
  have hw : WG (upd W (20 + l) (Int32.ofNat n)) := h.W.put _ (fre_lo (by omega) (by omega))
  refine ⟨⟨WX.mk hw ⟨h.1.1.1.2.2.2.1.of (upd_ne _ _ (by omega)), fun j hj => ?_⟩ (h.1.1.2.1.of (upd_ne _ _ (by omega))) (h.1.1.2.2.1.of (upd_ne _ _ (by omega))) (fun t ht => (h.1.1.T ht).of h.W ht (fun c hc _ => upd_ne _ _ (by omega))), h.1.2.pg (by omega) (by omega)⟩, LT_eq h.2.1 (upd_ne _ _ (by omega)), ok.of h.2.2 (upd_ne _ _ (by omega))⟩
  by_cases e : j = l
  · subst e
    exact ok.is (upd_at _ _ _) (by omega) hn (by omega)
  · exact (h.1.1.1.2.2.2.2 j hj).of (upd_ne _ _ (by omega))
theorem WZ.word {W : Nat → Int32} {w : Nat} {x : Int32} (h : WZ W) (hw : w < 32) (hx : vx x) : WZ (upd (upd W (32 + w) x) (64 + w) x) := by
  have h1 : WZ (upd W (32 + w) x) := h.gen (by omega) (h.W.put _ (fre_lo (by omega) (by omega))) (by omega) (by omega) (fun _ _ => hx)
  exact h1.gen (by omega) (h1.W.put _ (fre_lo (by omega) (by omega))) (by omega) (by omega) (fun _ _ => hx)
theorem WZ.lockw {W : Nat → Int32} {l n : Nat} (h : WZ W) (hl : l < 4) (hn : n ≤ 31) : WZ (upd W (16 + l) (Int32.ofNat n)) := h.gen (by omega) (h.W.low (by omega) (by omega) (by omega) (by omega) (by omega) (by omega) (fun _ _ => ok.is (upd_at _ _ _) (by omega) hn (by omega))) (by omega) (by omega) (by omega)
theorem WZ.fresh {W V : Nat → Int32} (h : WZ W) {t : Nat} (ht : t < 4) (e : ∀ c, c < 376 + 103 * t ∨ 376 + 103 * t + 103 ≤ c → c ≠ 9 → V c = W c) (h9 : V 9 = Int32.ofNat (t + 1)) (hz : ∀ c, c < 103 → V (376 + 103 * t + c) = Int32.ofNat 0) : WZ V := by
  have hw := h.W.fresh ht e h9 hz
  refine ⟨⟨WX.mk hw (h.1.1.1.2.2.2.of (fun j hj => e _ (by omega) (by omega))) (h.1.1.2.1.of (e _ (by omega) (by omega))) (h.1.1.2.2.1.of (e _ (by omega) (by omega))) (fun u hu => ?_), fun k hk => ?_⟩, LT_eq h.2.1 (e _ (by omega) (by omega)), ok.of h.2.2 (e _ (by omega) (by omega))⟩
  · by_cases hut : u = t
    · subst hut
      refine ⟨fun _ => ⟨hz 15 (by omega), hz 16 (by omega), hz 17 (by omega)⟩, fun q => ?_, Or.inl (hz 21 (by omega))⟩
      rw [hz 2 (by omega)] at q
      exact absurd q (by decide)
    · exact (h.1.1.T hu).of h.W hu (fun c hc _ => e _ (by omega) (by omega))
  · rcases hk with hk | ⟨u, c, hu, hk, hc⟩
    · exact (h.1.2 k (Or.inl hk)).of (e _ (by omega) (by omega))
    · by_cases hut : u = t
      · subst hut
        exact ok.is ((congrArg V hk).trans (hz c (by omega))) (by omega) (by omega) (by omega)
      · exact (h.1.2 k (Or.inr ⟨u, c, hu, hk, hc⟩)).of (e _ (by omega) (by omega))
/-- one more deed of a thread -/
noncomputable def ndd (W : Nat → Int32) (t L K n : Nat) : Nat → Int32 := upd (upd (upd W (376 + 103 * t + (55 + 2 * L)) (Int32.ofNat K)) (376 + 103 * t + (55 + 2 * L + 1)) (Int32.ofNat n)) (376 + 103 * t + 22) (Int32.ofNat (L + 1))
theorem ndd_ne {W : Nat → Int32} {t L K n k : Nat} (h : k ≠ 376 + 103 * t + 22 ∧ k ≠ 376 + 103 * t + (55 + 2 * L) ∧ k ≠ 376 + 103 * t + (55 + 2 * L + 1)) : ndd W t L K n k = W k := by
  unfold ndd
  rw [upd_ne _ _ (by omega), upd_ne _ _ (by omega), upd_ne _ _ (by omega)]
theorem ndd_22 {W : Nat → Int32} {t L K n : Nat} : ndd W t L K n (376 + 103 * t + 22) = Int32.ofNat (L + 1) := upd_at _ _ _
theorem ndd_K {W : Nat → Int32} {t L K n : Nat} : ndd W t L K n (376 + 103 * t + (55 + 2 * L)) = Int32.ofNat K := by
  unfold ndd
  rw [upd_ne _ _ (by omega), upd_ne _ _ (by omega), upd_at]
theorem ndd_n {W : Nat → Int32} {t L K n : Nat} : ndd W t L K n (376 + 103 * t + (55 + 2 * L + 1)) = Int32.ofNat n := by
  unfold ndd
  rw [upd_ne _ _ (by omega), upd_at]
theorem WZ.dd1 {W : Nat → Int32} {t L K n : Nat} (h : WZ W) (ht : t < 4) (hL : nv W (376 + 103 * t + 22) = L) (hL2 : L < 24) (h21 : W (376 + 103 * t + 21) = Int32.ofNat 0) (hK : K ≤ 7) (hn : n ≤ 999) (h1 : K ≤ 1 → n ≤ 3) (h3 : K ≤ 3 → n ≤ 31) : WZ (ndd W t L K n) := by
  have hD : DG (ndd W t L K n) t L := by
    refine ⟨ok.is ndd_K (by omega) hK (by omega), ok.is ndd_n (by omega) hn (by omega), ?_⟩
    have eK : nv (ndd W t L K n) (376 + 103 * t + (55 + 2 * L)) = K := by unfold nv; rw [ndd_K]; exact nv_on (by omega)
    have en : nv (ndd W t L K n) (376 + 103 * t + (55 + 2 * L + 1)) = n := by unfold nv; rw [ndd_n]; exact nv_on (by omega)
    rw [eK, en]
    exact ⟨h1, h3⟩
  have hw := h.W.deed (V := ndd W t L K n) ht hL hL2 (fun c a1 a2 a3 => ndd_ne ⟨a1, a2, a3⟩) ndd_22 hD
  refine ⟨⟨WX.mk hw (h.1.1.1.2.2.2.of (fun j hj => ndd_ne (by omega))) (h.1.1.2.1.of (ndd_ne (by omega))) (h.1.1.2.2.1.of (ndd_ne (by omega))) (fun u hu => ?_), ?_⟩, LT_eq h.2.1 (ndd_ne (by omega)), ok.of h.2.2 (ndd_ne (by omega))⟩
  · by_cases hut : u = t
    · subst hut
      obtain ⟨a1, a2, a3⟩ := h.1.1.T hu
      refine ⟨?_, ?_, Or.inl ((ndd_ne (by omega)).trans h21)⟩
      · rw [ndd_ne (by omega), ndd_ne (by omega), ndd_ne (by omega), ndd_ne (by omega)]
        exact a1
      · rw [ndd_ne (by omega), nv_of (ndd_ne (by omega))]
        exact a2
    · exact (h.1.1.T hu).of h.W hu (fun c hc _ => ndd_ne (by omega))
  · exact (((h.1.2.pt ht (by omega) (by omega)).pt ht (by omega) (by omega)).pt ht (by omega) (by omega))
/-- a thread that is new, on both sides -/
theorem cm_low : (List.range 136).all (fun k => k == 15 || k == 9 || ((Nat.blt (cm k).1 10 || Nat.ble 38 (cm k).1) && !((cm k).1 == 0 && (cm k).2 == 5))) = true := by decide +kernel
theorem cm_lw {k : Nat} (h : k < 136) (h15 : k ≠ 15) (h9 : k ≠ 9) : ((cm k).1 < 10 ∨ 38 ≤ (cm k).1) ∧ ¬ ((cm k).1 = 0 ∧ (cm k).2 = 5) := by
  have a := List.all_eq_true.mp cm_low k (List.mem_range.mpr h)
  have b1 : (k == 15) = false := beq_eq_false_iff_ne.mpr h15
  have b2 : (k == 9) = false := beq_eq_false_iff_ne.mpr h9
  rw [b1, b2, Bool.false_or, Bool.false_or, Bool.and_eq_true, Bool.or_eq_true] at a
  refine ⟨?_, fun e => ?_⟩
  · rcases a.1 with c | c
    · exact Or.inl (Nat.le_of_ble_eq_true c)
    · exact Or.inr (Nat.le_of_ble_eq_true c)
  · rw [e.1, e.2] at a
    exact absurd a.2 (by decide)
theorem RC.fresh {m M : Nat → Nat → Int32} {b : Nat} {W V : Nat → Int32} {t : Nat} (h : RC m b W) (hw : WG W) (ht : t < 4) (ht9 : nv W 9 = t) (e : ∀ c, c < 376 + 103 * t ∨ 376 + 103 * t + 103 ≤ c → c ≠ 9 → V c = W c) (h9 : V 9 = Int32.ofNat (t + 1)) (hz : ∀ c, c < 103 → V (376 + 103 * t + c) = Int32.ofNat 0) (eM : ∀ i l, i < b + 10 + 7 * t ∨ b + 17 + 7 * t ≤ i → ¬ (i = b ∧ l = 5) → M i l = m i l) (hM9 : M b 5 = Int32.ofNat (t + 1)) (hMz : ∀ c, c < 11 ∨ (15 ≤ c ∧ c ≤ 17) ∨ c = 21 ∨ c = 22 → M (b + (cmT t c).1) (cmT t c).2 = Int32.ofNat 0) : RC M b V := by
  have h60 := hw.C.2
  have e15 : V 15 = W 15 := e 15 (by omega) (by omega)
  have n15 : nv V 15 = nv W 15 := nv_of e15
  have n9 : nv V 9 = t + 1 := by unfold nv; rw [h9]; exact nv_on (by omega)
  have e2 : mv M (b + 40) 2 = mv m (b + 40) 2 := by
    unfold mv
    rw [eM _ _ (by omega) (by omega)]
  obtain ⟨⟨l1, l2⟩, l3⟩ := h
  refine ⟨⟨(eM _ _ (by omega) (by omega)).trans (l1.trans e15.symm), fun a c ha hc => ?_⟩, fun k hk => ?_⟩
  · rw [n15] at ha ⊢
    rw [e2, eM _ _ (by omega) (by omega), l2 a c ha hc]
    exact (e _ (by omega) (by omega)).symm
  · obtain ⟨a1, a2, a3⟩ := hk
    rcases a3 with a3 | ⟨a3, d1, d2, d3, d4, d5⟩
    · by_cases k9 : k = 9
      · subst k9
        rw [h9]
        exact hM9
      · obtain ⟨q1, q2⟩ := cm_lw a3 a2 k9
        rw [eM _ _ (by omega) (by omega), e k (by omega) k9]
        exact l3 k ⟨a1, a2, Or.inl a3⟩
    · rw [n9] at d1
      have ek : k = 376 + 103 * ((k - 376) / 103) + (k - 376) % 103 := by omega
      have hc103 : (k - 376) % 103 < 103 := Nat.mod_lt _ (by omega)
      have hu4 : (k - 376) / 103 < 4 := by omega
      by_cases hut : (k - 376) / 103 = t
      · rw [hut] at d2 d3 d4 d5
        have z10 : nv V (376 + 103 * t + 10) = 0 := by unfold nv; rw [hz 10 (by omega)]; rfl
        have z22 : nv V (376 + 103 * t + 22) = 0 := by unfold nv; rw [hz 22 (by omega)]; rfl
        rw [z10] at d2
        rw [hz 2 (by omega)] at d3
        rw [hz 17 (by omega)] at d4
        rw [z22] at d5
        have c1 : ¬ (11 ≤ (k - 376) % 103 ∧ (k - 376) % 103 ≤ 14) := fun q => absurd (d2 q) (Nat.not_lt_zero _)
        have c2 : ¬ (18 ≤ (k - 376) % 103 ∧ (k - 376) % 103 ≤ 20) := fun q => absurd (d3 q) (by decide)
        have c3 : ¬ (23 ≤ (k - 376) % 103 ∧ (k - 376) % 103 ≤ 54) := fun q => hbit0 (by omega) (d4 q)
        have c4 : ¬ 55 ≤ (k - 376) % 103 := fun q => absurd (d5 q) (Nat.not_lt_zero _)
        rw [ek, hut, hz _ hc103, cm_at ht hc103]
        exact hMz _ (by omega)
      · obtain ⟨j, s, js, ej⟩ := cmT_s hc103
        have hj : j ≤ 6 := by unfold svc at js; omega
        have ec : cm k = (10 + j + 7 * ((k - 376) / 103), s) := by
          rw [← ej, ← cm_at hu4 hc103, ← ek]
        have eV : ∀ c, c < 103 → V (376 + 103 * ((k - 376) / 103) + c) = W (376 + 103 * ((k - 376) / 103) + c) := fun c hc => e _ (by omega) (by omega)
        have q := l3 k ⟨a1, a2, Or.inr ⟨a3, by omega, fun z => by rw [← nv_of (eV 10 (by omega))]; exact d2 z, fun z => by rw [← eV 2 (by omega)]; exact d3 z, fun z => by rw [← eV 17 (by omega)]; exact d4 z, fun z => by rw [← nv_of (eV 22 (by omega))]; exact d5 z⟩⟩
        rw [ec] at q ⊢
        dsimp only at q ⊢
        rw [eM _ _ (by omega) (by omega), q]
        exact (e k (by omega) (by omega)).symm
theorem clearL_z {b t : Nat} : ∀ (n k : Nat) (m : Nat → Nat → Int32), k + n = 5 → (∀ c, c < k → m (b + 13 + 7 * t) c = Int32.ofNat 0) → (∀ c, c < 5 → xl_clear b t n k m (b + 13 + 7 * t) c = Int32.ofNat 0) ∧ ∀ s, s = 0 ∨ s = 5 ∨ s = 6 ∨ s = 7 ∨ s = 9 → xl_clear b t n k m (b + 14 + 7 * t) s = Int32.ofNat 0 := by
  intro n
  induction n with
  | zero =>
    intro k m hk hz
    refine ⟨fun c hc => ?_, fun s hs => ?_⟩
    · rw [xl_clear, close_ne (by omega)]
      exact hz c (by omega)
    · rw [xl_clear]
      unfold x_close
      rcases hs with rfl | rfl | rfl | rfl | rfl
      · rw [zx_nk _ _ (by omega), zx_nk _ _ (by omega), zx_nk _ _ (by omega), zx_nk _ _ (by omega), zx_at]
      · rw [zx_nk _ _ (by omega), zx_nk _ _ (by omega), zx_nk _ _ (by omega), zx_at]
      · rw [zx_nk _ _ (by omega), zx_nk _ _ (by omega), zx_at]
      · rw [zx_nk _ _ (by omega), zx_at]
      · rw [zx_at]
  | succ n ih =>
    intro k m hk hz
    rw [xl_clear]
    refine ih _ _ (by omega) (fun c hc => ?_)
    by_cases e : c = k
    · subst e; exact zx_at _ _ _ _
    · rw [zx_nk _ _ e]; exact hz c (by omega)
theorem clear_z {m : Nat → Nat → Int32} {b t : Nat} : (∀ c, c < 5 → x_clear m b t (b + 13 + 7 * t) c = Int32.ofNat 0) ∧ (∀ s, s = 0 ∨ s = 5 ∨ s = 6 ∨ s = 7 ∨ s = 9 → x_clear m b t (b + 14 + 7 * t) s = Int32.ofNat 0) ∧ ∀ s, 2 ≤ s → s ≤ 7 → x_clear m b t (b + 10 + 7 * t) s = Int32.ofNat 0 := by
  obtain ⟨a1, a2⟩ := clearL_z (b := b) (t := t) 5 0 (zm2 (zm2 (zm2 (zm2 (zm2 (zm2 m (b + 10 + 7 * t) 2 (Int32.ofNat 0)) (b + 10 + 7 * t) 3 (Int32.ofNat 0)) (b + 10 + 7 * t) 4 (Int32.ofNat 0)) (b + 10 + 7 * t) 5 (Int32.ofNat 0)) (b + 10 + 7 * t) 6 (Int32.ofNat 0)) (b + 10 + 7 * t) 7 (Int32.ofNat 0)) rfl (fun c hc => absurd hc (Nat.not_lt_zero _))
  refine ⟨a1, a2, fun s h1 h2 => ?_⟩
  unfold x_clear
  rw [clearL_ne (by omega) (by omega)]
  have hs : s = 2 ∨ s = 3 ∨ s = 4 ∨ s = 5 ∨ s = 6 ∨ s = 7 := by omega
  rcases hs with rfl | rfl | rfl | rfl | rfl | rfl
  · rw [zx_nk _ _ (by omega), zx_nk _ _ (by omega), zx_nk _ _ (by omega), zx_nk _ _ (by omega), zx_nk _ _ (by omega), zx_at]
  · rw [zx_nk _ _ (by omega), zx_nk _ _ (by omega), zx_nk _ _ (by omega), zx_nk _ _ (by omega), zx_at]
  · rw [zx_nk _ _ (by omega), zx_nk _ _ (by omega), zx_nk _ _ (by omega), zx_at]
  · rw [zx_nk _ _ (by omega), zx_nk _ _ (by omega), zx_at]
  · rw [zx_nk _ _ (by omega), zx_at]
  · rw [zx_at]
/-- the class's thread behind a clearing: zeros where the reference has some -/
theorem clear_c {m : Nat → Nat → Int32} {b t c : Nat} (hc : c < 11 ∨ (15 ≤ c ∧ c ≤ 17) ∨ c = 21 ∨ c = 22) : x_clear m b t (b + (cmT t c).1) (cmT t c).2 = Int32.ofNat 0 := by
  obtain ⟨a1, a2, a3⟩ := clear_z (m := m) (b := b) (t := t)
  have k : ∀ o s, cmT t c = (o + 7 * t, s) → x_clear m b t (b + o + 7 * t) s = Int32.ofNat 0 → x_clear m b t (b + (cmT t c).1) (cmT t c).2 = Int32.ofNat 0 := fun o s e q => by
    rw [e]
    dsimp only
    rw [show b + (o + 7 * t) = b + o + 7 * t by omega]
    exact q
  have hs : c = 0 ∨ c = 1 ∨ c = 2 ∨ c = 3 ∨ c = 4 ∨ (5 ≤ c ∧ c < 10) ∨ c = 10 ∨ c = 15 ∨ c = 16 ∨ c = 17 ∨ c = 21 ∨ c = 22 := by omega
  rcases hs with rfl | rfl | rfl | rfl | rfl | hs | rfl | rfl | rfl | rfl | rfl | rfl
  · exact k 10 3 rfl (a3 3 (by omega) (by omega))
  · exact k 10 4 rfl (a3 4 (by omega) (by omega))
  · exact k 14 0 rfl (a2 0 (by omega))
  · exact k 10 5 rfl (a3 5 (by omega) (by omega))
  · exact k 10 6 rfl (a3 6 (by omega) (by omega))
  · obtain ⟨y, rfl⟩ : ∃ y, c = 5 + y := ⟨c - 5, by omega⟩
    exact k 13 y (cmT_5 (by omega)) (a1 y (by omega))
  · exact k 14 5 rfl (a2 5 (by omega))
  · exact k 14 6 rfl (a2 6 (by omega))
  · exact k 14 7 rfl (a2 7 (by omega))
  · exact k 14 9 rfl (a2 9 (by omega))
  · exact k 10 7 rfl (a3 7 (by omega) (by omega))
  · exact k 10 2 rfl (a3 2 (by omega) (by omega))
/-- one more deed, on both sides -/
theorem RC.dd1 {m : Nat → Nat → Int32} {b : Nat} {W : Nat → Int32} {t L K n : Nat} (h : RC m b W) (hC : WC W) (ht : t < 4) (ht9 : t < nv W 9) (hL : W (376 + 103 * t + 22) = Int32.ofNat L) (hL2 : L < 24) : RC (x_addDeed m b t (Int32.ofNat K) (Int32.ofNat n)) b (ndd W t L K n) := by
  obtain ⟨e1, e2⟩ := cmT_d (t := t) hL2
  have e22 : cmT t 22 = (10 + 7 * t, 2) := rfl
  have g22 : m (b + 10 + 7 * t) 2 = W (376 + 103 * t + 22) := h.cellS ht (by omega) (cnd0 ht9 (by omega)) e22
  have gL : mv m (b + 10 + 7 * t) 2 = L := by
    unfold mv
    rw [g22, hL]
    exact nv_on (by omega)
  have nL : nv W (376 + 103 * t + 22) = L := by
    unfold nv
    rw [hL]
    exact nv_on (by omega)
  unfold x_addDeed ndd
  rw [gL, zcge_f (by omega) (by omega) (by omega), cnF]
  have r1 := h.thS (c := 55 + 2 * L) (o := 11) (s := L) (x := Int32.ofNat K) hC ht (by omega) (by omega) e1
  have C1 := WC_of (V := upd W (376 + 103 * t + (55 + 2 * L)) (Int32.ofNat K)) (upd_ne _ _ (by omega)) hC
  have r2 := r1.thS (c := 55 + 2 * L + 1) (o := 12) (s := L) (x := Int32.ofNat n) C1 ht (by omega) (by omega) e2
  have C2 := WC_of (V := upd (upd W (376 + 103 * t + (55 + 2 * L)) (Int32.ofNat K)) (376 + 103 * t + (55 + 2 * L + 1)) (Int32.ofNat n)) (upd_ne _ _ (by omega)) C1
  have q := r2.putG (j := 376 + 103 * t + 22) (x := Int32.ofNat (L + 1)) (by omega) (by omega) (Or.inr (by omega)) C2 (fun k hk hkj => ?_)
  · rw [cm_at ht (by omega), e22] at q
    dsimp only at q
    rw [show b + (10 + 7 * t) = b + 10 + 7 * t by omega] at q
    exact q
  · by_cases k1 : k = 376 + 103 * t + (55 + 2 * L)
    · subst k1
      rw [cm_at ht (by omega), e1]
      dsimp only
      rw [show b + (11 + 7 * t) = b + 11 + 7 * t by omega, zx_ne _ _ _ (by omega), zx_at, upd_ne _ _ (by omega), upd_at]
    · by_cases k2 : k = 376 + 103 * t + (55 + 2 * L + 1)
      · subst k2
        rw [cm_at ht (by omega), e2]
        dsimp only
        rw [show b + (12 + 7 * t) = b + 12 + 7 * t by omega, zx_at, upd_at]
      · refine r2.2 k ?_
        obtain ⟨a1, a2, a3⟩ := hk
        refine ⟨a1, a2, ?_⟩
        rcases a3 with a3 | ⟨a3, d1, d2, d3, d4, d5⟩
        · exact Or.inl a3
        · rw [nv_of (upd_ne _ _ (by omega))] at d1 d2
          rw [upd_ne _ _ (by omega)] at d3 d4
          refine Or.inr ⟨a3, d1, d2, d3, d4, fun z => ?_⟩
          have d6 := d5 z
          by_cases hut : (k - 376) / 103 = t
          · rw [hut] at d6 ⊢
            have u1 : nv (upd (upd (upd W (376 + 103 * t + (55 + 2 * L)) (Int32.ofNat K)) (376 + 103 * t + (55 + 2 * L + 1)) (Int32.ofNat n)) (376 + 103 * t + 22) (Int32.ofNat (L + 1))) (376 + 103 * t + 22) = L + 1 := by
              unfold nv
              rw [upd_at]
              exact nv_on (by omega)
            rw [u1] at d6
            rw [nv_of (upd_ne _ _ (by omega)), nv_of (upd_ne _ _ (by omega)), nL]
            omega
          · rw [nv_of (upd_ne _ _ (by omega))] at d6
            exact d6
theorem cm_t {w : Nat} (hw : w < 32) : cm (64 + w) = (2, w) := by
  unfold cm
  rw [if_neg (by omega), if_neg (by omega), if_neg (by omega), if_neg (by omega), if_neg (by omega), if_neg (by omega), if_neg (by omega), if_neg (by omega), if_neg (by omega), if_neg (by omega), if_pos (by omega), show 64 + w - 64 = w by omega]
theorem cm_3 {k : Nat} (hk : k < 9) : cm k = (3, k) := if_pos hk
