/-! all with whom it clashes fall, on both sides -/
theorem zand1 (x : Int32) : x &&& Int32.ofNat 1 = Int32.ofNat 0 ∨ x &&& Int32.ofNat 1 = Int32.ofNat 1 := by
  have h : (x &&& Int32.ofNat 1).toBitVec.toNat ≤ 1 := by
    rw [Int32.toBitVec_and, BitVec.toNat_and]
    exact Nat.and_le_right
  have key : x &&& Int32.ofNat 1 = Int32.ofNat ((x &&& Int32.ofNat 1).toBitVec.toNat) := by
    apply Int32.toInt_inj.mp
    rw [zoN (by omega)]
    exact BitVec.toInt_eq_toNat_of_lt (by omega)
  match hn : (x &&& Int32.ofNat 1).toBitVec.toNat, h with
  | 0, _ => left; rw [key, hn]
  | 1, _ => right; rw [key, hn]
theorem bit_eq (s : Int32) (k : Nat) : zc1 .eq ((s.toUInt32 >>> ((Int32.ofNat k).toUInt32 &&& Int32.toUInt32 31)).toInt32 &&& Int32.ofNat 1) = zc1 .eq (q_holds s k) := by
  unfold q_holds
  rcases zand1 ((s.toUInt32 >>> ((Int32.ofNat k).toUInt32 &&& Int32.toUInt32 31)).toInt32) with e | e
  · rw [e]; decide
  · rw [e]; decide
/-- guessing: something is left out -/
noncomputable def GL (W : Nat → Int32) : Prop := ∀ t, t < 4 → W (376 + 103 * t + 2) = Int32.ofNat 1 → 1 ≤ nv W (376 + 103 * t + 10)
/-- trust and how far it goes down -/
noncomputable def TB (W : Nat → Int32) : Prop := ok W 6 0 15 ∧ ∀ l, l < 4 → ok W (20 + l) 0 15
theorem falls_2 {W : Nat → Int32} (h : WG W) {o y t c : Nat} (ho : o < 4) (hy : y < 5) (ht : t < 4) (hot : o ≠ t) (hc : c < 103) : q_falls W o y (376 + 103 * t + c) = W (376 + 103 * t + c) := by
  have := (h.L o ho).2
  refine falls_fr ho hy h.C this (by omega) (by omega) (by omega) (fun d e hd => ?_)
  unfold fT at hd
  omega
theorem falls_22' {W : Nat → Int32} (h : WG W) {t y : Nat} (ht : t < 4) (hy : y < 5) : q_falls W t y (376 + 103 * t + 2) = Int32.ofNat 0 := by
  have hl := (h.L t ht).2
  unfold q_falls
  rw [logs_fr (WC_of (by simp (disch := omega) only [q_ends, upd_ne]) h.C) (by omega) (by omega)]
  unfold q_ends
  rw [upd_ne _ _ (by omega), upd_ne _ _ (by omega), upd_ne _ _ (by omega), upd_ne _ _ (by omega), upd_at]
theorem GL.falls {W : Nat → Int32} (h : GL W) (hw : WG W) {t y : Nat} (ht : t < 4) (hy : y < 5) : GL (q_falls W t y) := by
  intro u hu hg
  by_cases hut : t = u
  · subst hut
    rw [falls_22' hw ht hy] at hg
    exact absurd hg (by decide)
  · rw [falls_2 hw ht hy hu hut (by omega)] at hg
    rw [nv_of (falls_2 hw ht hy hu hut (by omega))]
    exact h u hu hg
theorem falls_6 {W : Nat → Int32} (h : WG W) {t y k : Nat} (ht : t < 4) (hy : y < 5) (hk : k < 15) : q_falls W t y k = W k := by
  have := (h.L t ht).2
  exact falls_fr ht hy h.C this (by omega) (by omega) (by omega) (fun c e => absurd e (by omega))
theorem lose_b {a d : Nat} (ha : a ≤ 15) (hd : d ≤ 15) : ∃ n, n ≤ 15 ∧ (if Int32.ofNat 0 < Int32.ofNat a - Int32.ofNat d then Int32.ofNat a - Int32.ofNat d else Int32.ofNat 0) = Int32.ofNat n := by
  have h : ∀ a, a < 16 → ∀ d, d < 16 → (if Int32.ofNat 0 < Int32.ofNat a - Int32.ofNat d then Int32.ofNat a - Int32.ofNat d else Int32.ofNat 0) = Int32.ofNat (a - d) := by decide +kernel
  exact ⟨a - d, by omega, h a (by omega) d (by omega)⟩
theorem TB.falls {W : Nat → Int32} (h : TB W) (hw : WG W) {t y : Nat} (ht : t < 4) (hy : y < 5) : TB (q_falls W t y) := by
  refine ⟨h.1.of (falls_6 hw ht hy (by omega)), fun l hl => ?_⟩
  have hL := (hw.L t ht).2
  by_cases e : l = nv W (376 + 103 * t + 11)
  · have hv : q_falls W t y (20 + l) = if Int32.ofNat 0 < W (20 + l) - W 6 then W (20 + l) - W 6 else Int32.ofNat 0 := by
      rw [e]
      unfold q_falls
      rw [logs_fr (WC_of (by simp (disch := omega) only [q_ends, upd_ne]) hw.C) (by omega) (by omega)]
      unfold q_ends
      rw [upd_ne _ _ (by omega), upd_ne _ _ (by omega), upd_ne _ _ (by omega), upd_ne _ _ (by omega), upd_ne _ _ (by omega), upd_at]
      simp (disch := omega) only [upd_ne]
    obtain ⟨n, n1, n2⟩ := lose_b (h.2 l hl).2.2 h.1.2.2
    rw [← (h.2 l hl).1, ← h.1.1] at n2
    exact ok.is (hv.trans n2) (by omega) n1 (by omega)
  · refine (h.2 l hl).of (falls_fr ht hy hw.C hL (by omega) (by omega) (by omega) (fun c q => absurd q (by omega)))
/-- what a world keeps beside its order -/
noncomputable def W2 (W : Nat → Int32) : Prop := WG W ∧ GR W ∧ GL W ∧ TB W
theorem W2.falls {W : Nat → Int32} (h : W2 W) {t y : Nat} (ht : t < 4) (hy : y < 5) : W2 (q_falls W t y) := ⟨h.1.falls ht hy, h.2.1.falls h.1 ht hy, h.2.2.1.falls h.1 ht hy, h.2.2.2.falls h.1 ht hy⟩
theorem RC.fall2 {m : Nat → Nat → Int32} {b : Nat} {W : Nat → Int32} {t y : Nat} (h : RC m b W) (hw : W2 W) (hc : CG m b) (ht : t < nv W 9) (hy : y < 5) (hg : W (376 + 103 * t + 2) = Int32.ofNat 1) : RC (x_fall m b t y).2 b (q_falls W t y) := by
  have h4 := hw.1.N4
  have hL := (hw.1.L t (by omega)).2
  have hT := hw.2.2.2.2 (nv W (376 + 103 * t + 11)) hL
  exact h.fall hw.1 ht hy hc.n60 hg (hw.2.2.1 t (by omega) hg) hT.1 hT.2.2 hw.2.2.2.1.1 hw.2.2.2.1.2.2
/-- the loop of falls, up to what is done behind it -/
theorem reachL_rel {b t w n5 : Nat} {v x r g s : Int32} {tt : Int32} (hn : n5 ≤ 4) : ∀ (n k : Nat) (m : Nat → Nat → Int32) (W : Nat → Int32), k + n = n5 → RC m b W → W2 W → CG m b → nv W 9 = n5 → (∀ j, k ≤ j → j < n5 → zc1 .eq (q_holds s j) = false → W (376 + 103 * j + 2) = Int32.ofNat 1) → ∃ m', xl_reachL b t w v x r g s n5 n k m = x_reachC m' b t w v x r g s ∧ RC m' b (l_clears tt s n5 n k W).2 ∧ W2 (l_clears tt s n5 n k W).2 ∧ CG m' b := by
  intro n
  induction n with
  | zero => intro k m W hk h hw hc h9 hs; exact ⟨m, rfl, h, hw, hc⟩
  | succ n ih =>
    intro k m W hk h hw hc h9 hs
    rw [xl_reachL, l_clears, bit_eq]
    cases hb : zc1 .eq (q_holds s k) with
    | true =>
      simp only [cond_true]
      exact ih _ _ _ (by omega) h hw hc h9 (fun j a b c => hs j (by omega) b c)
    | false =>
      simp only [cond_false]
      have hg := hs k (by omega) (by omega) hb
      have h9' : nv (q_falls W k 0) 9 = n5 := by rw [nv_of (falls_6 hw.1 (by omega) (by omega) (by omega))]; exact h9
      refine ih _ _ _ (by omega) (h.fall2 hw hc (by omega) (by omega) hg) (hw.falls (by omega) (by omega)) (hc.fall (by omega) (by omega)) h9' (fun j a b c => ?_)
      rw [falls_2 hw.1 (by omega) (by omega) (by omega) (by omega) (by omega)]
      exact hs j (by omega) b c
