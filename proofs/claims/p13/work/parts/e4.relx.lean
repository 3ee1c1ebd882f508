/-! stepping alike: what a world keeps beside its order, frames, the falls of a clash -/
noncomputable def WKt (W : Nat → Int32) (t : Nat) : Prop := W (376 + 103 * t + 21) = Int32.ofNat 0 ∨ (AL W t ∧ nv W (376 + 103 * t + (55 + 2 * nv W (376 + 103 * t + 0))) = 6)
noncomputable def WX (W : Nat → Int32) : Prop := W2 W ∧ ok W 5 0 9 ∧ ok W 8 0 1 ∧ ∀ t, t < 4 → WKt W t
theorem WX.W {W : Nat → Int32} (h : WX W) : WG W := h.1.1
theorem WX.G {W : Nat → Int32} (h : WX W) : GR W := h.1.2.1
theorem WKt.of {W V : Nat → Int32} {t : Nat} (h : WKt W t) (hw : WG W) (ht : t < 4) (e0 : V (376 + 103 * t + 0) = W (376 + 103 * t + 0)) (e21 : V (376 + 103 * t + 21) = W (376 + 103 * t + 21)) (e22 : V (376 + 103 * t + 22) = W (376 + 103 * t + 22)) (ed : ∀ p, p < 24 → V (376 + 103 * t + (55 + 2 * p)) = W (376 + 103 * t + (55 + 2 * p))) : WKt V t := by
  rcases h with h | ⟨h, g⟩
  · exact Or.inl (e21.trans h)
  · refine Or.inr ⟨h.of e0 e22, ?_⟩
    have h24 := (hw.2 t ht).2.2.2.1.2.2
    have hA : nv W (376 + 103 * t + 0) < nv W (376 + 103 * t + 22) := h
    rw [nv_of e0, nv_of (ed _ (by omega))]
    exact g
/-- what stays through reads and writes of a thread: but for trust, words' log and its own sets -/
noncomputable def FT (u : Nat) (W V : Nat → Int32) : Prop := (∀ k, k < 15 → V k = W k) ∧ (∀ k, 16 ≤ k → k < 20 → V k = W k) ∧ (∀ k, 24 ≤ k → k < 136 → V k = W k) ∧ (u < 4 → ∀ c, c < 103 → V (376 + 103 * u + c) = W (376 + 103 * u + c))
theorem FT.rf (u : Nat) (W : Nat → Int32) : FT u W W := ⟨fun _ _ => rfl, fun _ _ _ => rfl, fun _ _ _ => rfl, fun _ _ _ => rfl⟩
theorem FT.tr {u : Nat} {W V Z : Nat → Int32} (h : FT u W V) (g : FT u V Z) : FT u W Z := ⟨fun k a => (g.1 k a).trans (h.1 k a), fun k a b => (g.2.1 k a b).trans (h.2.1 k a b), fun k a b => (g.2.2.1 k a b).trans (h.2.2.1 k a b), fun a c b => (g.2.2.2 a c b).trans (h.2.2.2 a c b)⟩
theorem falls_g {W : Nat → Int32} (h : WG W) {t y k : Nat} (ht : t < 4) (hy : y < 5) (hk : k < 15 ∨ (16 ≤ k ∧ k < 20) ∨ (24 ≤ k ∧ k < 136)) : q_falls W t y k = W k := by
  have := (h.L t ht).2
  exact falls_fr ht hy h.C this (by omega) (by omega) (by omega) (fun c e => absurd e (by omega))
theorem FT.falls {W : Nat → Int32} (h : WG W) {u o y : Nat} (ho : o < 4) (hy : y < 5) (hou : o ≠ u) : FT u W (q_falls W o y) :=
  ⟨fun k a => falls_g h ho hy (Or.inl a), fun k a b => falls_g h ho hy (Or.inr (Or.inl ⟨a, b⟩)), fun k a b => falls_g h ho hy (Or.inr (Or.inr ⟨a, b⟩)), fun hu c hc => falls_2 h ho hy hu hou hc⟩
theorem falls_21 {W : Nat → Int32} (h : WG W) {t y : Nat} (ht : t < 4) (hy : y < 5) : q_falls W t y (376 + 103 * t + 21) = Int32.ofNat 0 := by
  have hl := (h.L t ht).2
  unfold q_falls
  rw [logs_fr (WC_of (by simp (disch := omega) only [q_ends, upd_ne]) h.C) (by omega) (by omega)]
  simp (disch := omega) only [q_ends, upd_ne]
  exact upd_at _ _ _
theorem WX.falls {W : Nat → Int32} (h : WX W) {t y : Nat} (ht : t < 4) (hy : y < 5) : WX (q_falls W t y) := by
  refine ⟨h.1.falls ht hy, h.2.1.of (falls_6 h.W ht hy (by omega)), h.2.2.1.of (falls_6 h.W ht hy (by omega)), fun u hu => ?_⟩
  by_cases e : t = u
  · subst e
    exact Or.inl (falls_21 h.W ht hy)
  · exact (h.2.2.2 u hu).of h.W hu (falls_2 h.W ht hy hu e (by omega)) (falls_2 h.W ht hy hu e (by omega)) (falls_2 h.W ht hy hu e (by omega)) (fun p hp => falls_2 h.W ht hy hu e (by omega))
theorem reachL_rx {b t w n5 u : Nat} {v x r g s : Int32} {tt : Int32} (hn : n5 ≤ 4) : ∀ (n k : Nat) (m : Nat → Nat → Int32) (W : Nat → Int32), k + n = n5 → RC m b W → WX W → CG m b → nv W 9 = n5 → (∀ j, k ≤ j → j < n5 → zc1 .eq (q_holds s j) = false → W (376 + 103 * j + 2) = Int32.ofNat 1 ∧ j ≠ u) → ∃ m', xl_reachL b t w v x r g s n5 n k m = x_reachC m' b t w v x r g s ∧ (l_clears tt s n5 n k W).1 = Int32.ofNat 1 ∧ RC m' b (l_clears tt s n5 n k W).2 ∧ WX (l_clears tt s n5 n k W).2 ∧ CG m' b ∧ FT u W (l_clears tt s n5 n k W).2 := by
  intro n
  induction n with
  | zero => intro k m W hk h hw hc h9 hs; exact ⟨m, rfl, rfl, h, hw, hc, FT.rf u W⟩
  | succ n ih =>
    intro k m W hk h hw hc h9 hs
    rw [xl_reachL, l_clears, bit_eq]
    cases hb : zc1 .eq (q_holds s k) with
    | true =>
      simp only [cond_true]
      exact ih _ _ _ (by omega) h hw hc h9 (fun j a b c => hs j (by omega) b c)
    | false =>
      simp only [cond_false]
      have hg := hs k (by omega) (by omega) hb
      have h9' : nv (q_falls W k 0) 9 = n5 := by rw [nv_of (falls_6 hw.W (by omega) (by omega) (by omega))]; exact h9
      obtain ⟨m', e1, e2, e3, e4, e5, e6⟩ := ih (k + 1) (x_fall m b k 0).2 (q_falls W k 0) (by omega) (h.fall2 hw.1 hc (by omega) (by omega) hg.1) (hw.falls (by omega) (by omega)) (hc.fall (by omega) (by omega)) h9' (fun j a b c => by
        rw [falls_2 hw.W (by omega) (by omega) (by omega) (by omega) (by omega)]
        exact hs j (by omega) b c)
      exact ⟨m', e1, e2, e3, e4, e5, (FT.falls hw.W (by omega) (by omega) hg.2).tr e6⟩
theorem clash_self {W : Nat → Int32} {x r : Int32} {t : Nat} (h4 : nv W 9 ≤ 4) (ht : t < nv W 9) : zc1 .eq (q_holds (q_clash W (Int32.ofNat t) x r) t) = true := by
  rw [clash_bits h4 t ht]
  unfold cf
  have e : zc2 .eq (Int32.ofNat t) (Int32.ofNat t) = true := decide_eq_true rfl
  rw [e]
  rfl
/-! who yields -/
theorem yields_n {W : Nat → Int32} {t : Nat} {s : Int32} (h : zc2 .ne (q_of W t 2) (Int32.ofNat 1) = true ∨ zc2 .ne (W 8) (Int32.ofNat 1) = true) : ∀ (n : Nat) (c : Int32) (k : Nat), l_yields W t s n c k = Int32.ofNat 0 := by
  intro n
  induction n with
  | zero =>
    intro c k
    rw [l_yields]
    rcases h with h | h
    · rw [h]
      cases zc1 .eq c <;> rfl
    · rw [h]
      cases zc1 .eq c <;> cases zc2 .ne (q_of W t 2) (Int32.ofNat 1) <;> rfl
  | succ n ih =>
    intro c k
    rw [l_yields, ih, ih]
    cases zc1 .ne c <;> cases zc1 .eq (q_holds s k) <;> cases zc2 .ge (q_of W k 20) (q_of W t 20) <;> rfl
theorem yields_1 {W : Nat → Int32} {t : Nat} {s : Int32} (h2 : zc2 .ne (q_of W t 2) (Int32.ofNat 1) = false) (h8 : zc2 .ne (W 8) (Int32.ofNat 1) = false) : ∀ (n k : Nat), l_yields W t s n (Int32.ofNat 1) k = Int32.ofNat 1 := by
  intro n
  induction n with
  | zero =>
    intro k
    rw [l_yields, h2, h8]
    rfl
  | succ n ih =>
    intro k
    rw [l_yields]
    exact ih _
theorem before_eq {m : Nat → Nat → Int32} {b : Nat} {W : Nat → Int32} {t : Nat} {s y : Int32} (h : RC m b W) (h4 : nv W 9 ≤ 4) (h2 : zc2 .ne (q_of W t 2) (Int32.ofNat 1) = false) (h8 : zc2 .ne (W 8) (Int32.ofNat 1) = false) (hy : y = q_of W t 20) (hs : ∀ j, j < nv W 9 → zc1 .eq (q_holds s j) = false → W (376 + 103 * j + 2) = Int32.ofNat 1) : ∀ (n k : Nat), k + n = nv W 9 → xl_anyBefore m b s y n k = l_yields W t s n (Int32.ofNat 0) k := by
  intro n
  induction n with
  | zero =>
    intro k hk
    rw [xl_anyBefore, l_yields]
    rfl
  | succ n ih =>
    intro k hk
    rw [xl_anyBefore, l_yields, bit_eq, ih _ (by omega), yields_1 h2 h8]
    cases hb : zc1 .eq (q_holds s k) with
    | true => rfl
    | false =>
      have hg := hs k (by omega) hb
      have e : m (b + 14 + 7 * k) 3 = q_of W k 20 := h.cellS (by omega) (by omega) ⟨by omega, fun q => by omega, fun _ => hg, fun q => by omega, fun q => by omega⟩ rfl
      rw [e, hy]
      rfl
theorem zne0 : zc1 .ne (Int32.ofNat 0) = false := by decide
theorem zn1 : zc1 .ne (Int32.ofNat 1) = true := by decide
theorem zeq0 : zc1 .eq (Int32.ofNat 0) = true := by decide
theorem zeq1' : zc1 .eq (Int32.ofNat 1) = false := by decide
theorem ok.b01 {W : Nat → Int32} {k : Nat} (h : ok W k 0 1) : W k = Int32.ofNat 0 ∨ W k = Int32.ofNat 1 := by
  have h1 := h.2.2
  by_cases e : nv W k = 0
  · left; rw [h.1, e]
  · right; rw [h.1, show nv W k = 1 by omega]
theorem WG.g01 {W : Nat → Int32} (h : WG W) {t : Nat} (ht : t < 4) : W (376 + 103 * t + 2) = Int32.ofNat 0 ∨ W (376 + 103 * t + 2) = Int32.ofNat 1 := (h.2 t ht).1.b01
theorem RC.n9 {m : Nat → Nat → Int32} {b : Nat} {W : Nat → Int32} (h : RC m b W) : mv m b 5 = nv W 9 := by
  have q := h.glob (k := 9) (by omega) (by omega)
  unfold mv nv
  rw [← q]
  rfl
theorem RC.gs {m : Nat → Nat → Int32} {b : Nat} {W : Nat → Int32} {t : Nat} (h : RC m b W) (ht4 : t < 4) (ht : t < nv W 9) : m (b + 14 + 7 * t) 0 = W (376 + 103 * t + 2) := h.cellS ht4 (by omega) (cnd0 ht (by omega)) rfl
theorem clears_rx {m mm : Nat → Nat → Int32} {b : Nat} {W : Nat → Int32} {t w : Nat} {v x r : Int32} (h : RC m b W) (hx : WX W) (hc : CG m b) (ht : t < nv W 9) : (x_reachB m b t w v x r (x_isGuessing m b t) = ((x_fall m b t 0).1, (x_fall m b t 0).2) ∧ q_clears mm W t (q_clash W (Int32.ofNat t) x r) = (Int32.ofNat 0, q_falls W t 0, zm2 mm 137 5 (Int32.ofNat 1)) ∧ W (376 + 103 * t + 2) = Int32.ofNat 1) ∨ ∃ m' W', x_reachB m b t w v x r (x_isGuessing m b t) = x_reachC m' b t w v x r (x_isGuessing m b t) (q_clash W (Int32.ofNat t) x r) ∧ q_clears mm W t (q_clash W (Int32.ofNat t) x r) = (Int32.ofNat 1, W', mm) ∧ RC m' b W' ∧ WX W' ∧ CG m' b ∧ FT t W W' := by
  have h4 := hx.W.N4
  have ht4 : t < 4 := by omega
  have e5 := h.n9
  have hh := holders_eq (x := x) (u := Int32.ofNat t) (r := r) h hx.W hx.G
  have g0 := h.gs ht4 ht
  have hcg := clash_guess (u := Int32.ofNat t) (x := x) (r := r) hx.W hx.G
  have hcs := clash_self (x := x) (r := r) h4 ht
  generalize q_clash W (Int32.ofNat t) x r = s at hh hcg hcs ⊢
  obtain ⟨m', e1, e2, e3, e4, e6, e7⟩ := reachL_rx (t := t) (w := w) (v := v) (x := x) (r := r) (g := x_isGuessing m b t) (u := t) (tt := Int32.ofNat t) (s := s) h4 (nv W 9) 0 m W (by omega) h hx hc rfl (fun j _ hj hb => ⟨hcg j (by omega) hj hb, fun e => by
    rw [e, hcs] at hb
    exact absurd hb (by decide)⟩)
  have hcl : zc1 .eq (q_yields W t s) = true → q_clears mm W t s = (Int32.ofNat 1, (l_clears (Int32.ofNat t) s (nv W 9) (nv W 9) 0 W).2, mm) := by
    intro hy
    unfold q_clears
    rw [hy, cond_true, e2]
  rcases hx.W.g01 ht4 with e | e
  · have hi : x_isGuessing m b t = Int32.ofNat 0 := by
      unfold x_isGuessing
      rw [g0, e, zeq0]
      rfl
    right
    refine ⟨m', _, ?_, hcl ?_, e3, e4, e6, e7⟩
    · rw [hi] at e1 ⊢
      unfold x_reachB
      rw [hh, e5, zeq0, cond_true]
      exact e1
    · unfold q_yields
      rw [yields_n (Or.inl (decide_eq_true (by show ¬ W (376 + 103 * t + 2) = Int32.ofNat 1; rw [e]; decide)))]
      exact zeq0
  · have hi : x_isGuessing m b t = Int32.ofNat 1 := by
      unfold x_isGuessing
      rw [g0, e, zeq1']
      rfl
    have g8 : m (b + 3) 8 = W 8 := h.glob (k := 8) (by omega) (by omega)
    have h2 : zc2 .ne (q_of W t 2) (Int32.ofNat 1) = false := decide_eq_false (fun q => q e)
    rcases hx.2.2.1.b01 with e8 | e8
    · right
      refine ⟨m', _, ?_, hcl ?_, e3, e4, e6, e7⟩
      · rw [hi] at e1 ⊢
        unfold x_reachB
        rw [hh, e5, zeq1', cond_false, g8, e8, zeq0, cond_true]
        exact e1
      · unfold q_yields
        rw [yields_n (Or.inr (decide_eq_true (by rw [e8]; decide)))]
        exact zeq0
    · have h8 : zc2 .ne (W 8) (Int32.ofNat 1) = false := decide_eq_false (fun q => q e8)
      have hb : x_anyBefore m b s (m (b + 14 + 7 * t) 3) = q_yields W t s := by
        unfold x_anyBefore q_yields
        rw [e5]
        refine before_eq h h4 h2 h8 ?_ (fun j hj q => hcg j (by omega) hj q) _ _ (by omega)
        exact h.cellS ht4 (by omega) ⟨ht, fun q => by omega, fun _ => e, fun q => by omega, fun q => by omega⟩ rfl
      cases hy : zc1 .eq (q_yields W t s) with
      | true =>
        right
        refine ⟨m', _, ?_, hcl hy, e3, e4, e6, e7⟩
        rw [hi] at e1 ⊢
        unfold x_reachB
        rw [hh, e5, zeq1', cond_false, g8, e8, zeq1', cond_false, hb, hy, cond_true]
        exact e1
      | false =>
        left
        refine ⟨?_, ?_, e⟩
        · rw [hi]
          unfold x_reachB
          rw [hh, e5, zeq1', cond_false, g8, e8, zeq1', cond_false, hb, hy, cond_false]
        · unfold q_clears
          rw [hy, cond_false]
          rfl
/-! what a thread keeps, one by one -/
noncomputable def WXt (W : Nat → Int32) (t : Nat) : Prop := (W (376 + 103 * t + 2) = Int32.ofNat 0 → W (376 + 103 * t + 15) = Int32.ofNat 0 ∧ W (376 + 103 * t + 16) = Int32.ofNat 0 ∧ W (376 + 103 * t + 17) = Int32.ofNat 0) ∧ (W (376 + 103 * t + 2) = Int32.ofNat 1 → 1 ≤ nv W (376 + 103 * t + 10)) ∧ WKt W t
theorem WX.T {W : Nat → Int32} (h : WX W) {t : Nat} (ht : t < 4) : WXt W t := ⟨h.G t ht, h.1.2.2.1 t ht, h.2.2.2 t ht⟩
theorem WX.mk {W : Nat → Int32} (hw : WG W) (hb : TB W) (h5 : ok W 5 0 9) (h8 : ok W 8 0 1) (hT : ∀ t, t < 4 → WXt W t) : WX W := ⟨⟨hw, fun t ht => (hT t ht).1, fun t ht => (hT t ht).2.1, hb⟩, h5, h8, fun t ht => (hT t ht).2.2⟩
theorem WXt.of {W V : Nat → Int32} {t : Nat} (h : WXt W t) (hw : WG W) (ht : t < 4) (e : ∀ c, c < 103 → (c = 0 ∨ c = 2 ∨ c = 10 ∨ (15 ≤ c ∧ c ≤ 17) ∨ c = 21 ∨ c = 22 ∨ 55 ≤ c) → V (376 + 103 * t + c) = W (376 + 103 * t + c)) : WXt V t := by
  obtain ⟨a, b, c⟩ := h
  refine ⟨?_, ?_, c.of hw ht (e 0 (by omega) (by omega)) (e 21 (by omega) (by omega)) (e 22 (by omega) (by omega)) (fun p hp => e _ (by omega) (by omega))⟩
  · rw [e 2 (by omega) (by omega), e 15 (by omega) (by omega), e 16 (by omega) (by omega), e 17 (by omega) (by omega)]
    exact a
  · rw [e 2 (by omega) (by omega), nv_of (e 10 (by omega) (by omega))]
    exact b
theorem TB.of {W V : Nat → Int32} (h : TB W) (e : ∀ k, k = 6 ∨ (20 ≤ k ∧ k < 24) → V k = W k) : TB V := ⟨h.1.of (e 6 (by omega)), fun l hl => (h.2 l hl).of (e _ (by omega))⟩
/-- all threads but one are as they were -/
theorem WX.one {W V : Nat → Int32} (h : WX W) {t : Nat} (ht : t < 4) (hw : WG V) (e : ∀ k, k = 5 ∨ k = 6 ∨ k = 8 ∨ (20 ≤ k ∧ k < 24) → V k = W k) (eo : ∀ u, u < 4 → u ≠ t → ∀ c, c < 103 → V (376 + 103 * u + c) = W (376 + 103 * u + c)) (hT : WXt V t) : WX V := by
  refine WX.mk hw (h.1.2.2.2.of (fun k hk => e k (by omega))) (h.2.1.of (e 5 (by omega))) (h.2.2.1.of (e 8 (by omega))) (fun u hu => ?_)
  by_cases q : u = t
  · rw [q]; exact hT
  · exact (h.T hu).of h.W hu (fun c hc _ => eo u hu q c hc)
theorem WX.glob {W : Nat → Int32} (h : WX W) {k : Nat} {x : Int32} (hk : k < 376) (h2 : k ≠ 0 ∧ k ≠ 2 ∧ k ≠ 7 ∧ k ≠ 9 ∧ k ≠ 14 ∧ k ≠ 15 ∧ ¬ (16 ≤ k ∧ k < 20)) (h3 : k ≠ 5 ∧ k ≠ 6 ∧ k ≠ 8 ∧ ¬ (20 ≤ k ∧ k < 24)) : WX (upd W k x) :=
  WX.mk (h.W.put _ (fre_lo hk h2)) (h.1.2.2.2.of (fun j hj => upd_ne _ _ (by omega))) (h.2.1.of (upd_ne _ _ (by omega))) (h.2.2.1.of (upd_ne _ _ (by omega))) (fun t ht => (h.T ht).of h.W ht (fun c hc _ => upd_ne _ _ (by omega)))
theorem WX.th {W : Nat → Int32} (h : WX W) {t c : Nat} {x : Int32} (ht : t < 4) (hc : c < 103) (h2 : c ≠ 0 ∧ c ≠ 2 ∧ c ≠ 10 ∧ ¬ (15 ≤ c ∧ c ≤ 17) ∧ c ≠ 21 ∧ ¬ cT c) : WX (upd W (376 + 103 * t + c) x) := by
  have h22 : c ≠ 22 ∧ c < 55 := by unfold cT at h2; omega
  exact h.one ht (h.W.put _ (fre_at ht hc ⟨h2.1, h2.2.1, h2.2.2.1, h2.2.2.2.2.2⟩)) (fun k hk => upd_ne _ _ (by omega)) (fun u hu hut d hd => upd_ne _ _ (by omega)) ((h.T ht).of h.W ht (fun d hd hq => upd_ne _ _ (by omega)))
theorem WX.set {W : Nat → Int32} (h : WX W) {t c : Nat} {x : Int32} (ht : t < 4) (hc : 15 ≤ c ∧ c ≤ 17) (hg : W (376 + 103 * t + 2) = Int32.ofNat 1) : WX (upd W (376 + 103 * t + c) x) := by
  refine h.one ht (h.W.put _ (fre_at ht (by omega) (by unfold cT; omega))) (fun k hk => upd_ne _ _ (by omega)) (fun u hu hut d hd => upd_ne _ _ (by omega)) ?_
  obtain ⟨a1, a2, a3⟩ := h.T ht
  refine ⟨fun q => ?_, ?_, a3.of h.W ht (upd_ne _ _ (by omega)) (upd_ne _ _ (by omega)) (upd_ne _ _ (by omega)) (fun p hp => upd_ne _ _ (by omega))⟩
  · rw [upd_ne _ _ (by omega), hg] at q
    exact absurd q (by decide)
  · rw [upd_ne _ _ (by omega), nv_of (upd_ne _ _ (by omega))]
    exact a2
theorem WX.logs {W : Nat → Int32} (h : WX W) (a c v : Int32) : WX (q_logs W a c v) :=
  WX.mk (h.W.logs _ _ _) (h.1.2.2.2.of (fun j hj => logs_fr h.W.C (by omega) (by omega))) (h.2.1.of (logs_fr h.W.C (by omega) (by omega))) (h.2.2.1.of (logs_fr h.W.C (by omega) (by omega))) (fun t ht => (h.T ht).of h.W ht (fun c hc _ => logs_fr h.W.C (by omega) (by omega)))
/-! reads alike -/
noncomputable def FW (t : Nat) (W V : Nat → Int32) : Prop := (∀ k, k < 15 ∨ (16 ≤ k ∧ k < 20) ∨ (24 ≤ k ∧ k < 32) → V k = W k) ∧ ∀ c, c < 103 → ¬ (15 ≤ c ∧ c ≤ 17) → ¬ (23 ≤ c ∧ c ≤ 54) → V (376 + 103 * t + c) = W (376 + 103 * t + c)
theorem FT.w {t : Nat} {W V : Nat → Int32} (h : FT t W V) (ht : t < 4) : FW t W V := by
  refine ⟨fun k hk => ?_, fun c hc _ _ => h.2.2.2 ht c hc⟩
  rcases hk with a | ⟨a, b⟩ | ⟨a, b⟩
  · exact h.1 k a
  · exact h.2.1 k a b
  · exact h.2.2.1 k a (by omega)
theorem FW.put {t k : Nat} {W V : Nat → Int32} {x : Int32} (h : FW t W V) (hk : (32 ≤ k ∧ k < 376) ∨ (∃ c, k = 376 + 103 * t + c ∧ ((15 ≤ c ∧ c ≤ 17) ∨ (23 ≤ c ∧ c ≤ 54)))) : FW t W (upd V k x) := by
  refine ⟨fun j hj => ?_, fun c hc a b => ?_⟩
  · rw [upd_ne _ _ (by rcases hk with q | ⟨c, q, _⟩ <;> omega)]
    exact h.1 j hj
  · rw [upd_ne _ _ (by rcases hk with q | ⟨d, q, _⟩ <;> omega)]
    exact h.2 c hc a b
noncomputable def RU (b t : Nat) (mm : Nat → Nat → Int32) (W : Nat → Int32) (p : QM) (q : QT) : Prop := RC p.2 b q.2.1 ∧ WX q.2.1 ∧ CG p.2 b ∧ ((p.1 = Int32.ofNat 1 ∧ q.1 = Int32.ofNat 1 ∧ q.2.2 = mm ∧ FW t W q.2.1) ∨ (p.1 = -1 ∧ q.1 = Int32.ofNat 0 ∧ q.2.2 = zm2 mm 137 5 (Int32.ofNat 1) ∧ W (376 + 103 * t + 2) = Int32.ofNat 1))
theorem RU.fell {m mm : Nat → Nat → Int32} {b : Nat} {W : Nat → Int32} {t y : Nat} (h : RC m b W) (hx : WX W) (hc : CG m b) (ht : t < nv W 9) (hy : y < 5) (hg : W (376 + 103 * t + 2) = Int32.ofNat 1) : RU b t mm W ((x_fall m b t y).1, (x_fall m b t y).2) (Int32.ofNat 0, (q_itFalls mm W t y).1, (q_itFalls mm W t y).2) := by
  have h4 := hx.W.N4
  exact ⟨h.fall2 hx.1 hc ht hy hg, hx.falls (by omega) hy, hc.fall (by omega) hy, Or.inr ⟨rfl, rfl, rfl, hg⟩⟩
theorem blk_of {W V : Nat → Int32} (e : V 0 = W 0) (w : Int32) : q_blockOf V w = q_blockOf W w := by
  unfold q_blockOf
  rw [e]
theorem reads_rx {m mm : Nat → Nat → Int32} {b : Nat} {W : Nat → Int32} {t w : Nat} (h : RC m b W) (hx : WX W) (hc : CG m b) (ht : t < nv W 9) : RU b t mm W (x_reach m b t w (-1)) (q_reads mm W t (Int32.ofNat w)) := by
  have h4 := hx.W.N4
  have ht4 : t < 4 := by omega
  have ex : x_reach m b t w (-1) = x_reachB m b t w (-1) (x_blockBit m b (Int32.ofNat w)) (Int32.ofNat 0) (x_isGuessing m b t) := by
    unfold x_reach
    rw [show zc2 .eq (-1 : Int32) (-1) = true from by decide, cond_true]
    cases zc1 .eq (x_isGuessing m b t) <;> rfl
  have g0 := h.gs ht4 ht
  rw [ex, block_eq h hx.W]
  unfold q_reads
  rcases clears_rx (mm := mm) (w := w) (v := -1) (x := q_blockOf W (Int32.ofNat w)) (r := Int32.ofNat 0) h hx hc ht with ⟨a1, a2, a3⟩ | ⟨m', W', a1, a2, a3, a4, a5, a6⟩
  · rw [a1, a2]
    dsimp only
    rw [zne0, cond_false]
    exact RU.fell h hx hc ht (by omega) a3
  · have e2 : W' (376 + 103 * t + 2) = W (376 + 103 * t + 2) := a6.2.2.2 ht4 2 (by omega)
    have n9 : nv W' 9 = nv W 9 := nv_of (a6.1 9 (by omega))
    rw [a1, a2]
    dsimp only
    rw [zn1, cond_true]
    unfold x_reachC x_isGuessing
    rw [g0]
    rcases hx.W.g01 ht4 with e | e
    · have q : zc2 .ne (q_of W' t 2) (Int32.ofNat 1) = true := decide_eq_true (by show ¬ W' (376 + 103 * t + 2) = Int32.ofNat 1; rw [e2, e]; decide)
      rw [q, cond_true, e, zeq0, cond_true, zeq0, cond_true, cond_true]
      exact ⟨a3, a4, a5, Or.inl ⟨rfl, rfl, rfl, a6.w ht4⟩⟩
    · have q : zc2 .ne (q_of W' t 2) (Int32.ofNat 1) = false := decide_eq_false (fun z => z (e2.trans e))
      have r6 : m' (b + 14 + 7 * t) 6 = W' (376 + 103 * t + 15) := a3.cellS ht4 (by omega) (cnd0 (by omega) (by omega)) rfl
      rw [q, cond_false, e, zeq1', cond_false, zeq1', cond_false, zeq0, cond_true, r6, blk_of (a6.1 0 (by omega))]
      exact ⟨a3.thS (c := 15) (o := 14) (s := 6) a4.W.C ht4 (by omega) (by omega) rfl, a4.set ht4 (by omega) (e2.trans e), a5.put _ (ncG ht4 (by omega)), Or.inl ⟨rfl, rfl, rfl, (a6.w ht4).put (Or.inr ⟨15, rfl, by omega⟩)⟩⟩
