theorem deedOf0 {W : Nat → Int32} {t p : Nat} (h : WG W) (ht : t < 4) (hp : p < 24) : q_deedOf W t p 0 = Int32.ofNat (nv W (376 + 103 * t + (55 + 2 * p))) := (h.2 t ht).2.2.2.2.2.2.2 p hp |>.1.1
theorem deedOf1 {W : Nat → Int32} {t p : Nat} (h : WG W) (ht : t < 4) (hp : p < 24) : q_deedOf W t p 1 = Int32.ofNat (nv W (376 + 103 * t + (55 + 2 * p + 1))) := (h.2 t ht).2.2.2.2.2.2.2 p hp |>.2.1.1
theorem WG.D {W : Nat → Int32} {t p : Nat} (h : WG W) (ht : t < 4) (hp : p < 24) : nv W (376 + 103 * t + (55 + 2 * p)) ≤ 7 ∧ (nv W (376 + 103 * t + (55 + 2 * p)) ≤ 1 → nv W (376 + 103 * t + (55 + 2 * p + 1)) ≤ 3) ∧ (nv W (376 + 103 * t + (55 + 2 * p)) ≤ 3 → nv W (376 + 103 * t + (55 + 2 * p + 1)) ≤ 31) := ⟨((h.2 t ht).2.2.2.2.2.2.2 p hp).1.2.2, ((h.2 t ht).2.2.2.2.2.2.2 p hp).2.2⟩
/-- beside a level's own cells of the search nothing changes -/
noncomputable def OF (b : Nat) (m m' : Nat → Nat → Int32) : Prop := (∀ i, i ≠ 143 → m' i = m i) ∧ ∀ c, (c < b ∨ b + 81 ≤ c ∨ (b + 36 ≤ c ∧ c < b + 40)) → m' 143 c = m 143 c
theorem OF.rf (b : Nat) (m : Nat → Nat → Int32) : OF b m m := ⟨fun _ _ => rfl, fun _ _ => rfl⟩
theorem OF.put {b k : Nat} (m : Nat → Nat → Int32) (x : Int32) (h : ¬ (k < b ∨ b + 81 ≤ k ∨ (b + 36 ≤ k ∧ k < b + 40))) : OF b m (zm2 m 143 k x) := ⟨fun i hi => zm2_i _ _ hi, fun c hc => zm2_k _ _ (fun e => h (e ▸ hc))⟩
theorem OF.tr {b : Nat} {m m' m'' : Nat → Nat → Int32} (h : OF b m m') (g : OF b m' m'') : OF b m m'' := ⟨fun i hi => (g.1 i hi).trans (h.1 i hi), fun c hc => (g.2 c hc).trans (h.2 c hc)⟩
theorem OF.put2 {b k : Nat} {m m' : Nat → Nat → Int32} (g : OF b m m') (x : Int32) (h : ¬ (k < b ∨ b + 81 ≤ k ∨ (b + 36 ≤ k ∧ k < b + 40))) : OF b m (zm2 m' 143 k x) := g.tr (OF.put m' x h)
theorem OL.put {m : Nat → Nat → Int32} {b k : Nat} (h : OL m b) (x : Int32) (hk : b + 40 ≠ k) : OL (zm2 m 143 k x) b := by
  unfold OL
  rw [zm2_k _ _ hk]
  exact h
theorem wdo_ok {m : Nat → Nat → Int32} {W : Nat → Int32} {b t K n : Nat} (hO : OL m b) (ht : t < 4) (hW : WG W) (hK : K ≤ 7) (h1 : K ≤ 1 → n ≤ 3) (h3 : K ≤ 3 → n ≤ 31) : OL (q_wdoDeed m W b t K n).2 b ∧ ((q_wdoDeed m W b t K n).1 = 0 ∨ (q_wdoDeed m W b t K n).1 = 1) ∧ OF b m (q_wdoDeed m W b t K n).2 := by
  have hl : n ≤ 3 → nv W (16 + n) ≤ 31 := fun h => (hW.1.2.2.2.2.2.2 n (by omega)).2.2
  match K, hK, h1, h3 with
  | 0, _, h1, _ =>
    have := hl (h1 (by omega))
    show OL (q_wdo0 m b t n (nv W (16 + n))).2 b ∧ _ ∧ OF b m (q_wdo0 m b t n (nv W (16 + n))).2
    unfold q_wdoDeed q_wdo0
    cases zc1 .eq (m 143 (b + 0 + nv W (16 + n))) with
    | true => exact ⟨hO.put _ (by omega), Or.inr rfl, OF.put _ _ (by omega)⟩
    | false => exact ⟨hO, Or.inl rfl, OF.rf _ _⟩
  | 1, _, h1, _ =>
    have := hl (h1 (by omega))
    exact ⟨hO.put _ (by omega), Or.inr rfl, OF.put _ _ (by omega)⟩
  | 2, _, _, h3 => exact ⟨hO.put _ (by omega), Or.inr rfl, OF.put _ _ (by omega)⟩
  | 3, _, _, h3 =>
    have := h3 (by omega)
    exact ⟨hO.put _ (by omega), Or.inr rfl, OF.put _ _ (by omega)⟩
  | 4, _, _, _ => exact ⟨hO.put _ (by omega), Or.inr rfl, OF.put _ _ (by omega)⟩
  | 5, _, _, _ => exact ⟨hO.put _ (by omega), Or.inr rfl, OF.put _ _ (by omega)⟩
  | 6, _, _, _ => exact ⟨hO, Or.inr rfl, OF.rf _ _⟩
  | 7, _, _, _ =>
    have h2 := hO.2
    show OL (q_putsWhole m b t (m 143 (b + 40)).toNatClampNeg) b ∧ _ ∧ OF b m (q_putsWhole m b t (m 143 (b + 40)).toNatClampNeg)
    revert h2
    generalize (m 143 (b + 40)).toNatClampNeg = O
    intro h2
    unfold q_wdoDeed q_wdo7 q_putsWhole
    cases h20 : zc2 .ne (Int32.ofNat O) (Int32.ofNat 20) with
    | false => exact ⟨hO, Or.inr rfl, OF.rf _ _⟩
    | true =>
      have := tne_t h20
      refine ⟨?_, Or.inr rfl, ((OF.put _ _ (by omega)).put2 _ (by omega)).put2 _ (by omega)⟩
      show OL (zm2 _ 143 (b + 40) (Int32.ofNat (O + 1))) b
      unfold OL
      rw [zm2_a, nv_on (by omega)]
      exact ⟨rfl, by omega⟩
  | k + 8, h, _, _ => exact absurd h (by omega)
noncomputable def l_copyL (b : Nat) : Nat → Nat → (Nat → Nat → Int32) → Nat × (Nat → Nat → Int32)
  | 0, k, m => (k, m)
  | n + 1, k, m => (l_copyL b n ((k + 1)) ((zm2 m 143 (((b + 81) + k)) ((m 143 ((b + k)))))))
theorem w_copyL {σ : Nat → Nat × (Nat → Int32)} {yy : (Nat → Nat → Int64) × Bool × Nat × Nat} {W : Nat → Int32} {e : Nat} {all : Nat} {b : Nat} {t : Nat} {f : Nat} {x7 : Option Value} {x8 : Option Value} {d : Nat} {o : zO} {M9 : zMem} (hd : 1 ≤ d + 1) (hb : b + 162 ≤ 891) : ∀ (n : Nat) (k : Nat) (m : Nat → Nat → Int32), k + n = 81 → zEv σ (d + 1) 1905 95 [some (.ref 137), some (.int (Int32.ofNat e)), some (.int (Int32.ofNat all)), some (.int (Int32.ofNat b)), some (.int (Int32.ofNat t)), some (.int (Int32.ofNat f)), some (.int (Int32.ofNat (l_copyL b n k m).1)), x7, x8] [] (zS1, zrow ((l_copyL b n k m).2) 138 W, yy) o M9 → zEv σ (d + 1) 1905 61 [some (.ref 137), some (.int (Int32.ofNat e)), some (.int (Int32.ofNat all)), some (.int (Int32.ofNat b)), some (.int (Int32.ofNat t)), some (.int (Int32.ofNat f)), some (.int (Int32.ofNat k)), x7, x8] [] (zS1, zrow m 138 W, yy) o M9 := by
  intro n
  induction n with
  | zero =>
    intro k m hk kk
    refine zeP rfl rfl ?_
    refine zeKn (c := 81) rfl rfl rfl ?_
    refine zeT2 rfl rfl (zcge (by omega) (by omega) (by omega)) ?_
    simp only [l_copyL, cond_true, cond_false] at kk
    exact kk
  | succ n ih =>
    intro k m hk kk
    refine zeP rfl rfl ?_
    refine zeKn (c := 81) rfl rfl rfl ?_
    refine zeF2 rfl rfl (zcge_f (by omega) (by omega) (by omega)) ?_
    refine zeP rfl rfl ?_
    refine zeGR rfl rfl zS137 rfl rfl ?_
    refine zeP rfl rfl ?_
    refine zeKn (c := 81) rfl rfl rfl ?_
    refine zeAdd rfl ?_
    refine zeP rfl rfl ?_
    refine zeAdd rfl ?_
    refine zeP rfl rfl ?_
    refine zeGR rfl rfl zS137 rfl rfl ?_
    refine zeP rfl rfl ?_
    refine zeP rfl rfl ?_
    refine zeAdd rfl ?_
    refine zeQL (a := 143) (k := (b + k)) rfl rfl (by decide) rfl rfl (by omega) ?_
    refine zeQS (a := 143) (k := ((b + 81) + k)) rfl (by decide) rfl rfl (by omega) ?_
    refine zeInc rfl rfl ?_
    refine zeP rfl rfl ?_
    simp only [l_copyL, cond_true, cond_false] at kk
    exact ih ((k + 1))  ((zm2 m 143 (((b + 81) + k)) ((m 143 ((b + k)))))) (by omega)  kk
noncomputable def l_playL (W : Nat → Int32) (b : Nat) (t : Nat) : Nat → Int32 → Nat → (Nat → Nat → Int32) → Int32 × Nat × (Nat → Nat → Int32)
  | 0, is, p, m => (is, p, m)
  | n + 1, is, p, m => (bif zc1 .eq is then (is, p, m) else (l_playL W b t n ((q_wdoDeed m W ((b + 81)) t ((nv W (376 + 103 * t + (55 + 2 * p)))) ((nv W (376 + 103 * t + (55 + 2 * p + 1))))).1) ((p + 1)) ((q_wdoDeed m W ((b + 81)) t ((nv W (376 + 103 * t + (55 + 2 * p)))) ((nv W (376 + 103 * t + (55 + 2 * p + 1))))).2)))
theorem w_playL {σ : Nat → Nat × (Nat → Int32)} {yy : (Nat → Nat → Int64) × Bool × Nat × Nat} {W : Nat → Int32} {e : Nat} {all : Nat} {b : Nat} {t : Nat} {f : Nat} {q : Nat} {d : Nat} {o : zO} {M9 : zMem} (hd : 4 ≤ d + 1) (hb : b + 162 ≤ 891) (ht : t < 4) (hW : WG W) (hq : q ≤ 24) : ∀ (n : Nat) (is : Int32) (p : Nat) (m : Nat → Nat → Int32), p + n = q → OL m (b + 81) → is = 0 ∨ is = 1 → zEv σ (d + 1) 1905 160 [some (.ref 137), some (.int (Int32.ofNat e)), some (.int (Int32.ofNat all)), some (.int (Int32.ofNat b)), some (.int (Int32.ofNat t)), some (.int (Int32.ofNat f)), some (.int (Int32.ofNat q)), some (.int (l_playL W b t n is p m).1), some (.int (Int32.ofNat (l_playL W b t n is p m).2.1))] [] (zS1, zrow ((l_playL W b t n is p m).2.2) 138 W, yy) o M9 → zEv σ (d + 1) 1905 112 [some (.ref 137), some (.int (Int32.ofNat e)), some (.int (Int32.ofNat all)), some (.int (Int32.ofNat b)), some (.int (Int32.ofNat t)), some (.int (Int32.ofNat f)), some (.int (Int32.ofNat q)), some (.int is), some (.int (Int32.ofNat p))] [] (zS1, zrow m 138 W, yy) o M9 := by
  intro n
  induction n with
  | zero =>
    intro is p m hk hO his kk
    refine zeP rfl rfl ?_
    refine zeP rfl rfl ?_
    refine zeT2 rfl rfl (zcge (by omega) (by omega) (by omega)) ?_
    simp only [l_playL, cond_true, cond_false] at kk
    exact kk
  | succ n ih =>
    intro is p m hk hO his kk
    refine zeP rfl rfl ?_
    refine zeP rfl rfl ?_
    refine zeF2 rfl rfl (zcge_f (by omega) (by omega) (by omega)) ?_
    refine zeP rfl rfl ?_
    refine zeB1 rfl rfl (fun h1 => ?_) (fun h1 => ?_)
    · simp only [l_playL, h1, cond_true, cond_false] at kk
      exact kk
    · refine zeP rfl rfl ?_
      refine zeP rfl rfl ?_
      refine zeKn (c := 81) rfl rfl rfl ?_
      refine zeAdd rfl ?_
      refine zeP rfl rfl ?_
      refine zeP rfl rfl ?_
      refine zeP rfl rfl ?_
      refine zeP rfl rfl ?_
      refine zeKn (c := 0) rfl rfl rfl ?_
      refine zeCF rfl rfl rfl rfl rfl rfl (c_deedOf (m := m) (W := W) (t := t) (p := p) (k := 0) (by omega)) (by omega) ?_
      dsimp only [Option.toList, List.cons_append, List.nil_append]
      rw [(deedOf0 hW ht (by omega))]
      refine zeP rfl rfl ?_
      refine zeP rfl rfl ?_
      refine zeP rfl rfl ?_
      refine zeKn (c := 1) rfl rfl rfl ?_
      refine zeCF rfl rfl rfl rfl rfl rfl (c_deedOf (m := m) (W := W) (t := t) (p := p) (k := 1) (by omega)) (by omega) ?_
      dsimp only [Option.toList, List.cons_append, List.nil_append]
      rw [(deedOf1 hW ht (by omega))]
      refine zeCF rfl rfl rfl rfl rfl rfl (c_wdoDeed (m := m) (W := W) (b := (b + 81)) (t := t) (K := (nv W (376 + 103 * t + (55 + 2 * p)))) (n := (nv W (376 + 103 * t + (55 + 2 * p + 1)))) (by omega) ht hW hO (hW.D ht (by omega)).1 (hW.D ht (by omega)).2.1 (hW.D ht (by omega)).2.2) (by omega) ?_
      dsimp only [Option.toList, List.cons_append, List.nil_append]
      refine zeP rfl rfl ?_
      refine zeInc rfl rfl ?_
      refine zeP rfl rfl ?_
      simp only [l_playL, h1, cond_true, cond_false] at kk
      exact ih ((q_wdoDeed m W ((b + 81)) t ((nv W (376 + 103 * t + (55 + 2 * p)))) ((nv W (376 + 103 * t + (55 + 2 * p + 1))))).1) ((p + 1))  ((q_wdoDeed m W ((b + 81)) t ((nv W (376 + 103 * t + (55 + 2 * p)))) ((nv W (376 + 103 * t + (55 + 2 * p + 1))))).2) (by omega) (wdo_ok hO ht hW (hW.D ht (by omega)).1 (hW.D ht (by omega)).2.1 (hW.D ht (by omega)).2.2).1 (wdo_ok hO ht hW (hW.D ht (by omega)).1 (hW.D ht (by omega)).2.1 (hW.D ht (by omega)).2.2).2.1 kk
theorem copyL_v {b : Nat} : ∀ (n k : Nat) (m : Nat → Nat → Int32), k + n = 81 → (l_copyL b n k m).1 = 81 ∧ (∀ i, i ≠ 143 → (l_copyL b n k m).2 i = m i) ∧ (∀ c, c < b + 81 + k ∨ b + 162 ≤ c → (l_copyL b n k m).2 143 c = m 143 c) ∧ ∀ c, k ≤ c → c < 81 → (l_copyL b n k m).2 143 (b + 81 + c) = m 143 (b + c) := by
  intro n
  induction n with
  | zero =>
    intro k m hk
    unfold l_copyL
    exact ⟨by show k = 81; omega, fun _ _ => rfl, fun _ _ => rfl, fun c h1 h2 => absurd h1 (by omega)⟩
  | succ n ih =>
    intro k m hk
    unfold l_copyL
    obtain ⟨h1, h2, h3, h4⟩ := ih (k + 1) (zm2 m 143 (b + 81 + k) (m 143 (b + k))) (by omega)
    refine ⟨h1, fun i hi => (h2 i hi).trans (zm2_i _ _ hi), fun c hc => (h3 c (by omega)).trans (zm2_k _ _ (by omega)), fun c hc hc2 => ?_⟩
    by_cases e : c = k
    · subst e
      exact (h3 _ (by omega)).trans (zm2_a _ _ _ _)
    · exact (h4 c (by omega) hc2).trans (zm2_k _ _ (by omega))
theorem playL_ok {W : Nat → Int32} {e all b t f q : Nat} (hW : WG W) (ht : t < 4) (hq : q ≤ 24) : ∀ (n : Nat) (is : Int32) (p : Nat) (m : Nat → Nat → Int32), p + n = q → OL m (b + 81) → is = 0 ∨ is = 1 → OL (l_playL W b t n is p m).2.2 (b + 81) ∧ ((l_playL W b t n is p m).1 = 0 ∨ (l_playL W b t n is p m).1 = 1) ∧ OF (b + 81) m (l_playL W b t n is p m).2.2 := by
  intro n
  induction n with
  | zero => intro is p m hk hO his; exact ⟨hO, his, OF.rf _ _⟩
  | succ n ih =>
    intro is p m hk hO his
    unfold l_playL
    cases zc1 .eq is with
    | true => exact ⟨hO, his, OF.rf _ _⟩
    | false =>
      have hD := hW.D ht (p := p) (by omega)
      obtain ⟨h1, h2, h3⟩ := wdo_ok hO ht hW hD.1 hD.2.1 hD.2.2
      obtain ⟨g1, g2, g3⟩ := ih _ (p + 1) _ (by omega) h1 h2
      exact ⟨g1, g2, h3.tr g3⟩
