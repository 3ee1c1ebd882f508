/-- where a thread stands in a level of the search -/
noncomputable def fr (m : Nat → Nat → Int32) (b t : Nat) : Nat := (m 143 (b + 36 + t)).toNatClampNeg
noncomputable def LG (m : Nat → Nat → Int32) (W : Nat → Int32) (b : Nat) : Prop := ∀ t, t < 4 → m 143 (b + 36 + t) = Int32.ofNat (fr m b t) ∧ fr m b t ≤ nv W (376 + 103 * t + 22)
theorem OL.of_fr {m m' : Nat → Nat → Int32} {b : Nat} (h : OL m b) (e : ∀ c, c < b + 81 → m' 143 c = m 143 c) : OL m' b := by
  unfold OL
  rw [e _ (by omega)]
  exact h
theorem LG.of_fr {m m' : Nat → Nat → Int32} {W : Nat → Int32} {b : Nat} (h : LG m W b) (e : ∀ c, c < b + 81 → m' 143 c = m 143 c) : LG m' W b := by
  intro t ht
  have := h t ht
  unfold fr at *
  rw [e _ (by omega)]
  exact this
noncomputable def ordP (W : Nat → Int32) (b t : Nat) (m : Nat → Nat → Int32) : Int32 × Nat × (Nat → Nat → Int32) := l_playL W b t (bpn W t (fr m b t) - fr m b t) (Int32.ofNat 1) (fr m b t) (l_copyL b 81 0 m).2
noncomputable def ordM (W : Nat → Int32) (e b t : Nat) (m : Nat → Nat → Int32) : Nat → Nat → Int32 := zm2 (zm2 (ordP W b t m).2.2 143 (b + 81 + 36 + t) (Int32.ofNat (bpn W t (fr m b t)))) 144 e (Int32.ofNat t)
theorem copyL_OL {m : Nat → Nat → Int32} {b : Nat} (hO : OL m b) : OL (l_copyL b 81 0 m).2 (b + 81) := by
  have h := (copyL_v (b := b) 81 0 m rfl).2.2.2 40 (by omega) (by omega)
  unfold OL
  rw [show b + 81 + 40 = b + 81 + 40 from rfl, h]
  exact hO
theorem ordM_ok {m : Nat → Nat → Int32} {W : Nat → Int32} {e b t : Nat} (hW : WG W) (ht : t < 4) (hO : OL m b) (hL : LG m W b) (hf : fr m b t < nv W (376 + 103 * t + 22)) : OL (ordM W e b t m) (b + 81) ∧ LG (ordM W e b t m) W (b + 81) ∧ (∀ c, c < b + 81 → ordM W e b t m 143 c = m 143 c) ∧ (∀ i, i ≠ 143 → i ≠ 144 → ordM W e b t m i = m i) ∧ ((ordP W b t m).1 = 0 ∨ (ordP W b t m).1 = 1) := by
  have h24 := (hW.2 t ht).2.2.2.1.2.2
  have hbp := bp_n hW ht hf
  obtain ⟨c1, c2, c3, c4⟩ := copyL_v (b := b) 81 0 m rfl
  obtain ⟨p1, p2, p3⟩ := playL_ok (e := 0) (all := 0) (b := b) (t := t) (f := 0) (q := bpn W t (fr m b t)) hW ht (by omega) (bpn W t (fr m b t) - fr m b t) (Int32.ofNat 1) (fr m b t) (l_copyL b 81 0 m).2 (by omega) (copyL_OL hO) (Or.inr rfl)
  have e143 : ∀ c, ordM W e b t m 143 c = zm2 (ordP W b t m).2.2 143 (b + 81 + 36 + t) (Int32.ofNat (bpn W t (fr m b t))) 143 c := fun c => congrFun (zm2_i _ _ (by decide)) c
  refine ⟨?_, fun u hu => ?_, fun c hc => ?_, fun i h1 h2 => ?_, p2⟩
  · unfold OL
    rw [e143, zm2_k _ _ (by omega)]
    exact p1
  · have key : ordM W e b t m 143 (b + 81 + 36 + u) = if u = t then Int32.ofNat (bpn W t (fr m b t)) else m 143 (b + 36 + u) := by
      rw [e143]
      by_cases hut : u = t
      · subst hut
        rw [if_pos rfl, zm2_a]
      · rw [if_neg hut, zm2_k _ _ (by omega)]
        refine (p3.2 _ (by omega)).trans ?_
        rw [show b + 81 + 36 + u = b + 81 + (36 + u) by omega, c4 (36 + u) (by omega) (by omega), show b + (36 + u) = b + 36 + u by omega]
    unfold fr
    rw [key]
    by_cases hut : u = t
    · subst hut
      rw [if_pos rfl, nv_on (by omega)]
      exact ⟨rfl, hbp.2.2⟩
    · rw [if_neg hut]
      exact hL u hu
  · rw [e143, zm2_k _ _ (by omega)]
    exact (p3.2 c (by omega)).trans (c3 c (by omega))
  · unfold ordM
    rw [zm2_i _ _ h2, zm2_i _ _ h1]
    exact (p3.1 i h1).trans (c2 i h1)
noncomputable def l_orders (W : Nat → Int32) (e : Nat) (all : Nat) (b : Nat) (rec : ((Nat → Nat → Int32) → Int32 × (Nat → Nat → Int32))) : Nat → Nat → (Nat → Nat → Int32) → Int32 × (Nat → Nat → Int32)
  | 0, t, m => ((Int32.ofNat 0), m)
  | n + 1, t, m => (bif zc2 .ne (Int32.ofNat (fr m b t)) (Int32.ofNat (nv W (376 + 103 * t + 22))) then (bif zc1 .eq (l_playL W b t ((bpn W t (fr m b t) - fr m b t)) ((Int32.ofNat 1)) ((fr m b t)) ((l_copyL b 81 0 m).2)).1 then (l_orders W e all b rec n ((t + 1)) ((zm2 ((zm2 ((l_playL W b t ((bpn W t (fr m b t) - fr m b t)) ((Int32.ofNat 1)) ((fr m b t)) ((l_copyL b 81 0 m).2)).2.2) 143 ((((b + 81) + 36) + t)) ((Int32.ofNat (bpn W t (fr m b t)))))) 144 e ((Int32.ofNat t))))) else (bif zc1 .eq (rec ((zm2 ((zm2 ((l_playL W b t ((bpn W t (fr m b t) - fr m b t)) ((Int32.ofNat 1)) ((fr m b t)) ((l_copyL b 81 0 m).2)).2.2) 143 ((((b + 81) + 36) + t)) ((Int32.ofNat (bpn W t (fr m b t)))))) 144 e ((Int32.ofNat t))))).1 then (l_orders W e all b rec n ((t + 1)) ((rec ((zm2 ((zm2 ((l_playL W b t ((bpn W t (fr m b t) - fr m b t)) ((Int32.ofNat 1)) ((fr m b t)) ((l_copyL b 81 0 m).2)).2.2) 143 ((((b + 81) + 36) + t)) ((Int32.ofNat (bpn W t (fr m b t)))))) 144 e ((Int32.ofNat t))))).2)) else ((Int32.ofNat 1), (rec ((zm2 ((zm2 ((l_playL W b t ((bpn W t (fr m b t) - fr m b t)) ((Int32.ofNat 1)) ((fr m b t)) ((l_copyL b 81 0 m).2)).2.2) 143 ((((b + 81) + 36) + t)) ((Int32.ofNat (bpn W t (fr m b t)))))) 144 e ((Int32.ofNat t))))).2))) else (l_orders W e all b rec n ((t + 1)) m))
theorem w_orders {σ : Nat → Nat × (Nat → Int32)} {yy : (Nat → Nat → Int64) × Bool × Nat × Nat} {W : Nat → Int32} {e : Nat} {all : Nat} {b : Nat} {rec : ((Nat → Nat → Int32) → Int32 × (Nat → Nat → Int32))} {hr : Nat} {d : Nat} (hd : 6 ≤ d + 1) (hb : b + 162 ≤ 891) (he : e < 10) (hW : WG W) (hN4 : nv W 9 ≤ 4) (hd2 : hr + 1 ≤ d + 1) (hrec : ∀ m', OL m' (b + 81) → LG m' W (b + 81) → zF σ hr 1905 [.ref 137, .int (Int32.ofNat (e + 1)), .int (Int32.ofNat all)] (zS1, zrow m' 138 W, yy) (.inl (some (.int (rec m').1))) (zS1, zrow (rec m').2 138 W, yy) ∧ ((rec m').1 = 0 ∨ (rec m').1 = 1) ∧ (∀ i, i ≠ 143 → i ≠ 144 → (rec m').2 i = m' i) ∧ ∀ c, c < b + 162 → (rec m').2 143 c = m' 143 c) : ∀ (n : Nat) (t : Nat) (x5 : Option Value) (x6 : Option Value) (x7 : Option Value) (x8 : Option Value) (m : Nat → Nat → Int32), t + n = nv W 9 → OL m b → LG m W b → zEv σ (d + 1) 1905 19 [some (.ref 137), some (.int (Int32.ofNat e)), some (.int (Int32.ofNat all)), some (.int (Int32.ofNat b)), some (.int (Int32.ofNat t)), x5, x6, x7, x8] [] (zS1, zrow m 138 W, yy) (.inl (some (.int (l_orders W e all b rec n t m).1))) (zS1, zrow ((l_orders W e all b rec n t m).2) 138 W, yy) := by
  intro n
  induction n with
  | zero =>
    intro t x5 x6 x7 x8 m hk hO hL
    refine zeP rfl rfl ?_
    refine zeP rfl rfl ?_
    refine zeCF rfl rfl rfl rfl rfl rfl (c_threads (m := m) (W := W)  ) (by omega) ?_
    dsimp only [Option.toList, List.cons_append, List.nil_append]
    rw [(show q_threads W = Int32.ofNat (nv W 9) from hW.N)]
    refine zeT2 rfl rfl (zcge (by omega) (by omega) (by omega)) ?_
    refine zeKn (c := 0) rfl rfl rfl ?_
    exact zeRe rfl rfl rfl rfl (by rfl) (by rfl)
  | succ n ih =>
    intro t x5 x6 x7 x8 m hk hO hL
    refine zeP rfl rfl ?_
    refine zeP rfl rfl ?_
    refine zeCF rfl rfl rfl rfl rfl rfl (c_threads (m := m) (W := W)  ) (by omega) ?_
    dsimp only [Option.toList, List.cons_append, List.nil_append]
    rw [(show q_threads W = Int32.ofNat (nv W 9) from hW.N)]
    refine zeF2 rfl rfl (zcge_f (by omega) (by omega) (by omega)) ?_
    refine zeP rfl rfl ?_
    refine zeGR rfl rfl zS137 rfl rfl ?_
    refine zeP rfl rfl ?_
    refine zeKn (c := 36) rfl rfl rfl ?_
    refine zeAdd rfl ?_
    refine zeP rfl rfl ?_
    refine zeAdd rfl ?_
    refine zeQL (a := 143) (k := ((b + 36) + t)) rfl rfl (by decide) rfl rfl (by omega) ?_
    rw [(hL t (by omega)).1]
    refine zeP rfl rfl ?_
    refine zeP rfl rfl ?_
    refine zeP rfl rfl ?_
    refine zeP rfl rfl ?_
    refine zeKn (c := 22) rfl rfl rfl ?_
    refine zeCF rfl rfl rfl rfl rfl rfl (c_of (m := m) (W := W) (t := t) (k := 22) (by omega)) (by omega) ?_
    dsimp only [Option.toList, List.cons_append, List.nil_append]
    rw [(show q_of W t 22 = Int32.ofNat (nv W (376 + 103 * t + 22)) from ((hW.2 t (by omega)).2.2.2.1).1)]
    refine zeB2 rfl rfl (fun h1 => ?_) (fun h1 => ?_)
    · refine zeKn (c := 0) rfl rfl rfl ?_
      refine zeP rfl rfl ?_
      refine w_copyL (e := e) (all := all) (b := b) (t := t) (f := (fr m b t)) (x7 := x7) (x8 := x8) (W := W) (by omega) hb 81 (0)  m (by omega)  ?_
      refine zeP rfl rfl ?_
      refine zeP rfl rfl ?_
      refine zeP rfl rfl ?_
      refine zeCF rfl rfl rfl rfl rfl rfl (c_behindPart (m := (l_copyL b 81 0 m).2) (W := W) (t := t) (p := (fr m b t)) hW (by omega) (by have := tne_t h1; have := (hL t (by omega)).2; omega)) (by omega) ?_
      dsimp only [Option.toList, List.cons_append, List.nil_append]
      rw [(bp_n hW (by omega) (by have := tne_t h1; have := (hL t (by omega)).2; omega)).1]
      refine zeP rfl rfl ?_
      refine zeKn (c := 1) rfl rfl rfl ?_
      refine zeP rfl rfl ?_
      refine zeP rfl rfl ?_
      refine zeP rfl rfl ?_
      have hbp := (bp_n (t := t) (p := fr m b t) hW (by omega) (by have := tne_t h1; have := (hL t (by omega)).2; omega)).2
      have h24 := (hW.2 t (by omega)).2.2.2.1.2.2
      refine w_playL (e := e) (all := all) (b := b) (t := t) (f := (fr m b t)) (q := (bpn W t (fr m b t))) (W := W) (by omega) hb (by omega) hW (by omega) ((bpn W t (fr m b t) - fr m b t)) ((Int32.ofNat 1)) ((fr m b t))  ((l_copyL b 81 0 m).2) (by omega) (copyL_OL hO) (Or.inr rfl) ?_
      refine zeP rfl rfl ?_
      refine zeGR rfl rfl zS137 rfl rfl ?_
      refine zeP rfl rfl ?_
      refine zeKn (c := 81) rfl rfl rfl ?_
      refine zeAdd rfl ?_
      refine zeKn (c := 36) rfl rfl rfl ?_
      refine zeAdd rfl ?_
      refine zeP rfl rfl ?_
      refine zeAdd rfl ?_
      refine zeP rfl rfl ?_
      refine zeQS (a := 143) (k := (((b + 81) + 36) + t)) rfl (by decide) rfl rfl (by omega) ?_
      refine zeP rfl rfl ?_
      refine zeGR rfl rfl zS137 rfl rfl ?_
      refine zeP rfl rfl ?_
      refine zeP rfl rfl ?_
      refine zeQS (a := 144) (k := e) rfl (by decide) rfl rfl (by omega) ?_
      refine zeP rfl rfl ?_
      refine zeB1 rfl rfl (fun h2 => ?_) (fun h2 => ?_)
      · refine zeInc rfl rfl ?_
        refine zeP rfl rfl ?_
        simp only [l_orders, h1, h2, cond_true, cond_false]
        exact ih ((t + 1)) (some (.int (Int32.ofNat (fr m b t)))) (some (.int (Int32.ofNat (bpn W t (fr m b t))))) (some (.int (l_playL W b t ((bpn W t (fr m b t) - fr m b t)) ((Int32.ofNat 1)) ((fr m b t)) ((l_copyL b 81 0 m).2)).1)) (some (.int (Int32.ofNat (l_playL W b t ((bpn W t (fr m b t) - fr m b t)) ((Int32.ofNat 1)) ((fr m b t)) ((l_copyL b 81 0 m).2)).2.1)))  ((zm2 ((zm2 ((l_playL W b t ((bpn W t (fr m b t) - fr m b t)) ((Int32.ofNat 1)) ((fr m b t)) ((l_copyL b 81 0 m).2)).2.2) 143 ((((b + 81) + 36) + t)) ((Int32.ofNat (bpn W t (fr m b t)))))) 144 e ((Int32.ofNat t)))) (by omega) (hO.of_fr (ordM_ok (e := e) hW (by omega) hO hL (by have := tne_t h1; have := (hL t (by omega)).2; omega)).2.2.1) (hL.of_fr (ordM_ok (e := e) hW (by omega) hO hL (by have := tne_t h1; have := (hL t (by omega)).2; omega)).2.2.1)
      · refine zeP rfl rfl ?_
        refine zeP rfl rfl ?_
        refine zeKn (c := 1) rfl rfl rfl ?_
        refine zeAdd rfl ?_
        refine zeP rfl rfl ?_
        refine zeCF rfl rfl rfl rfl rfl rfl ((hrec ((zm2 ((zm2 ((l_playL W b t ((bpn W t (fr m b t) - fr m b t)) ((Int32.ofNat 1)) ((fr m b t)) ((l_copyL b 81 0 m).2)).2.2) 143 ((((b + 81) + 36) + t)) ((Int32.ofNat (bpn W t (fr m b t)))))) 144 e ((Int32.ofNat t)))) (ordM_ok (e := e) hW (by omega) hO hL (by have := tne_t h1; have := (hL t (by omega)).2; omega)).1 (ordM_ok (e := e) hW (by omega) hO hL (by have := tne_t h1; have := (hL t (by omega)).2; omega)).2.1).1) (by omega) ?_
        dsimp only [Option.toList, List.cons_append, List.nil_append]
        refine zeB1 rfl rfl (fun h3 => ?_) (fun h3 => ?_)
        · refine zeInc rfl rfl ?_
          refine zeP rfl rfl ?_
          simp only [l_orders, h1, h2, h3, cond_true, cond_false]
          exact ih ((t + 1)) (some (.int (Int32.ofNat (fr m b t)))) (some (.int (Int32.ofNat (bpn W t (fr m b t))))) (some (.int (l_playL W b t ((bpn W t (fr m b t) - fr m b t)) ((Int32.ofNat 1)) ((fr m b t)) ((l_copyL b 81 0 m).2)).1)) (some (.int (Int32.ofNat (l_playL W b t ((bpn W t (fr m b t) - fr m b t)) ((Int32.ofNat 1)) ((fr m b t)) ((l_copyL b 81 0 m).2)).2.1)))  ((rec ((zm2 ((zm2 ((l_playL W b t ((bpn W t (fr m b t) - fr m b t)) ((Int32.ofNat 1)) ((fr m b t)) ((l_copyL b 81 0 m).2)).2.2) 143 ((((b + 81) + 36) + t)) ((Int32.ofNat (bpn W t (fr m b t)))))) 144 e ((Int32.ofNat t))))).2) (by omega) (hO.of_fr (fun c hc => ((hrec _ (ordM_ok (e := e) hW (by omega) hO hL (by have := tne_t h1; have := (hL t (by omega)).2; omega)).1 (ordM_ok (e := e) hW (by omega) hO hL (by have := tne_t h1; have := (hL t (by omega)).2; omega)).2.1).2.2.2 c (by omega)).trans ((ordM_ok (e := e) hW (by omega) hO hL (by have := tne_t h1; have := (hL t (by omega)).2; omega)).2.2.1 c hc))) (hL.of_fr (fun c hc => ((hrec _ (ordM_ok (e := e) hW (by omega) hO hL (by have := tne_t h1; have := (hL t (by omega)).2; omega)).1 (ordM_ok (e := e) hW (by omega) hO hL (by have := tne_t h1; have := (hL t (by omega)).2; omega)).2.1).2.2.2 c (by omega)).trans ((ordM_ok (e := e) hW (by omega) hO hL (by have := tne_t h1; have := (hL t (by omega)).2; omega)).2.2.1 c hc)))
        · refine zeKn (c := 1) rfl rfl rfl ?_
          exact zeRe rfl rfl rfl rfl (by simp only [l_orders, h1, h2, h3, cond_true, cond_false] <;> rfl) (by simp only [l_orders, h1, h2, h3, cond_true, cond_false] <;> rfl)
    · refine zeP rfl rfl ?_
      refine zeInc rfl rfl ?_
      refine zeP rfl rfl ?_
      simp only [l_orders, h1, cond_true, cond_false]
      exact ih ((t + 1)) (some (.int (Int32.ofNat (fr m b t)))) (x6) (x7) (x8)  m (by omega) hO hL
