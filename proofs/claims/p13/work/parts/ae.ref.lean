theorem asNow2_b {m : Nat → Nat → Int32} {W : Nat → Int32} {b O : Nat} : ∀ (n : Nat) (is : Int32) (k : Nat), is = 0 ∨ is = 1 → l_asNow2 m W b O n is k = 0 ∨ l_asNow2 m W b O n is k = 1 := by
  intro n
  induction n with
  | zero => intro is k h; exact h
  | succ n ih =>
    intro is k h
    unfold l_asNow2
    cases zc1 .eq is with
    | true => exact h
    | false =>
      rw [cond_false]
      cases zc2 .ne (m 143 (b + 41 + k)) (W (96 + k)) with
      | true => exact ih _ _ (Or.inl rfl)
      | false => exact ih _ _ (Or.inr rfl)
theorem asNow1_b {m : Nat → Nat → Int32} {W : Nat → Int32} {b O : Nat} : ∀ (n : Nat) (is : Int32) (k : Nat), is = 0 ∨ is = 1 → l_asNow1 m W b O n is k = 0 ∨ l_asNow1 m W b O n is k = 1 := by
  intro n
  induction n with
  | zero => intro is k h; exact asNow2_b _ _ _ h
  | succ n ih =>
    intro is k h
    unfold l_asNow1
    cases zc1 .eq is with
    | true => exact asNow2_b _ _ _ h
    | false =>
      rw [cond_false]
      cases zc2 .ne (m 143 (b + 0 + k)) (W (32 + k)) with
      | true => exact ih _ _ (Or.inl rfl)
      | false => exact ih _ _ (Or.inr rfl)
theorem isAsNow_b {m : Nat → Nat → Int32} {W : Nat → Int32} {b O : Nat} : q_isAsNow m W b O = 0 ∨ q_isAsNow m W b O = 1 := by
  unfold q_isAsNow
  cases zc2 .ne (m 143 (b + 40)) (W 14) with
  | true => exact asNow1_b _ _ _ (Or.inl rfl)
  | false => exact asNow1_b _ _ _ (Or.inr rfl)
theorem tne_ff {a b : Nat} (h : a = b) : zc2 .ne (Int32.ofNat a) (Int32.ofNat b) = false := by
  subst h
  exact decide_eq_false (fun q => q rfl)
theorem tne_tt {a b : Nat} (ha : a ≤ 100000) (hb : b ≤ 100000) (h : a ≠ b) : zc2 .ne (Int32.ofNat a) (Int32.ofNat b) = true := by
  apply decide_eq_true
  intro e
  have h3 := congrArg Int32.toInt e
  rw [zoN (by omega), zoN (by omega)] at h3
  omega
noncomputable def q_ordersE (m : Nat → Nat → Int32) (W : Nat → Int32) (e : Nat) (all : Nat) : Int32 := (q_isAsNow m W ((81 * e)) ((nv W 14)))
theorem p_ordersE {σ : Nat → Nat × (Nat → Int32)} {yy : (Nat → Nat → Int64) × Bool × Nat × Nat} {m : Nat → Nat → Int32} {W : Nat → Int32} {e : Nat} {all : Nat} {d : Nat} (hd : 2 ≤ d + 1) (hea : e = all) (he : e ≤ 10) (hW : WG W) : zEv σ (d + 1) 1905 0 [some (.ref 137), some (.int (Int32.ofNat e)), some (.int (Int32.ofNat all)), none, none, none, none, none, none] [] (zS1, zrow m 138 W, yy) (.inl (some (.int (q_ordersE m W e all)))) (zS1, zrow m 138 W, yy) := by
  refine zeKn (c := 81) rfl rfl rfl ?_
  refine zeP rfl rfl ?_
  refine zeMul rfl ?_
  refine zeP rfl rfl ?_
  refine zeP rfl rfl ?_
  refine zeP rfl rfl ?_
  refine zeF2 rfl rfl (tne_ff hea) ?_
  refine zeP rfl rfl ?_
  refine zeP rfl rfl ?_
  refine zeCF rfl rfl rfl rfl rfl rfl (c_isAsNow (m := m) (W := W) (b := (81 * e)) (O := (nv W 14)) hW.1.2.2.2.2.1.1 hW.1.2.2.2.2.1.2.2 (by omega)) (by omega) ?_
  dsimp only [Option.toList, List.cons_append, List.nil_append]
  exact zeRe rfl rfl rfl (zretB rfl rfl isAsNow_b) (by rfl) (by rfl)
noncomputable def q_ordersN (m : Nat → Nat → Int32) (W : Nat → Int32) (e : Nat) (all : Nat) (rec : ((Nat → Nat → Int32) → Int32 × (Nat → Nat → Int32))) : Int32 × (Nat → Nat → Int32) := (l_orders W e all ((81 * e)) rec ((nv W 9)) 0 m)
theorem p_ordersN {σ : Nat → Nat × (Nat → Int32)} {yy : (Nat → Nat → Int64) × Bool × Nat × Nat} {m : Nat → Nat → Int32} {W : Nat → Int32} {e : Nat} {all : Nat} {rec : ((Nat → Nat → Int32) → Int32 × (Nat → Nat → Int32))} {hr : Nat} {d : Nat} (hd : 6 ≤ d + 1) (hne : e ≠ all) (he : e < 10) (hal : all ≤ 10) (hW : WG W) (hd2 : hr + 1 ≤ d + 1) (hrec : ∀ m', OL m' (81 * e + 81) → LG m' W (81 * e + 81) → zF σ hr 1905 [.ref 137, .int (Int32.ofNat (e + 1)), .int (Int32.ofNat all)] (zS1, zrow m' 138 W, yy) (.inl (some (.int (rec m').1))) (zS1, zrow (rec m').2 138 W, yy) ∧ ((rec m').1 = 0 ∨ (rec m').1 = 1) ∧ (∀ i, i ≠ 143 → i ≠ 144 → (rec m').2 i = m' i) ∧ ∀ c, c < 81 * e + 162 → (rec m').2 143 c = m' 143 c) (hO : OL m (81 * e)) (hL : LG m W (81 * e)) : zEv σ (d + 1) 1905 0 [some (.ref 137), some (.int (Int32.ofNat e)), some (.int (Int32.ofNat all)), none, none, none, none, none, none] [] (zS1, zrow m 138 W, yy) (.inl (some (.int (q_ordersN m W e all rec).1))) (zS1, zrow ((q_ordersN m W e all rec).2) 138 W, yy) := by
  refine zeKn (c := 81) rfl rfl rfl ?_
  refine zeP rfl rfl ?_
  refine zeMul rfl ?_
  refine zeP rfl rfl ?_
  refine zeP rfl rfl ?_
  refine zeP rfl rfl ?_
  refine zeT2 rfl rfl (tne_tt (by omega) (by omega) hne) ?_
  refine zeKn (c := 0) rfl rfl rfl ?_
  refine zeP rfl rfl ?_
  simp only [q_ordersN, cond_true, cond_false]
  exact w_orders (e := e) (all := all) (b := (81 * e)) (rec := rec) (hr := hr) (W := W) (by omega) (by omega) he hW hW.N4 hd2 hrec ((nv W 9)) (0) (none) (none) (none) (none)  m (by omega) hO hL
noncomputable def q_orders (W : Nat → Int32) (all : Nat) : Nat → Nat → (Nat → Nat → Int32) → Int32 × (Nat → Nat → Int32)
  | 0, e, m => (q_isAsNow m W (81 * e) (nv W 14), m)
  | n + 1, e, m => l_orders W e all (81 * e) (q_orders W all n (e + 1)) (nv W 9) 0 m
/-- what a search leaves alone -/
noncomputable def OK3 (b : Nat) (m : Nat → Nat → Int32) (X : Int32 × (Nat → Nat → Int32)) : Prop := (X.1 = 0 ∨ X.1 = 1) ∧ (∀ i, i ≠ 143 → i ≠ 144 → X.2 i = m i) ∧ ∀ c, c < b + 81 → X.2 143 c = m 143 c
theorem l_orders_ok {W : Nat → Int32} {e all b : Nat} {rec : (Nat → Nat → Int32) → Int32 × (Nat → Nat → Int32)} (hW : WG W) (hrec : ∀ m', OL m' (b + 81) → LG m' W (b + 81) → OK3 (b + 81) m' (rec m')) : ∀ (n t : Nat) (m : Nat → Nat → Int32), t + n = nv W 9 → OL m b → LG m W b → OK3 b m (l_orders W e all b rec n t m) := by
  have hN4 := hW.N4
  intro n
  induction n with
  | zero => intro t m hk hO hL; exact ⟨Or.inl rfl, fun _ _ _ => rfl, fun _ _ => rfl⟩
  | succ n ih =>
    intro t m hk hO hL
    unfold l_orders
    cases h1 : zc2 .ne (Int32.ofNat (fr m b t)) (Int32.ofNat (nv W (376 + 103 * t + 22))) with
    | false => exact ih (t + 1) m (by omega) hO hL
    | true =>
      have hf : fr m b t < nv W (376 + 103 * t + 22) := by
        have := tne_t h1
        have := (hL t (by omega)).2
        omega
      obtain ⟨o1, o2, o3, o4, o5⟩ := ordM_ok (e := e) hW (by omega) hO hL hf
      have hr := hrec _ o1 o2
      have hO1 := hO.of_fr o3
      have hL1 := hL.of_fr o3
      have f3 : ∀ c, c < b + 81 → (rec (ordM W e b t m)).2 143 c = m 143 c := fun c hc => (hr.2.2 c (by omega)).trans (o3 c hc)
      have f4 : ∀ i, i ≠ 143 → i ≠ 144 → (rec (ordM W e b t m)).2 i = m i := fun i h1 h2 => (hr.2.1 i h1 h2).trans (o4 i h1 h2)
      show OK3 b m (bif zc1 .eq (ordP W b t m).1 then l_orders W e all b rec n (t + 1) (ordM W e b t m) else bif zc1 .eq (rec (ordM W e b t m)).1 then l_orders W e all b rec n (t + 1) (rec (ordM W e b t m)).2 else (Int32.ofNat 1, (rec (ordM W e b t m)).2))
      cases zc1 .eq (ordP W b t m).1 with
      | true =>
        obtain ⟨g1, g2, g3⟩ := ih (t + 1) _ (by omega) hO1 hL1
        exact ⟨g1, fun i h1 h2 => (g2 i h1 h2).trans (o4 i h1 h2), fun c hc => (g3 c hc).trans (o3 c hc)⟩
      | false =>
        cases zc1 .eq (rec (ordM W e b t m)).1 with
        | true =>
          obtain ⟨g1, g2, g3⟩ := ih (t + 1) _ (by omega) (hO.of_fr f3) (hL.of_fr f3)
          exact ⟨g1, fun i h1 h2 => (g2 i h1 h2).trans (f4 i h1 h2), fun c hc => (g3 c hc).trans (f3 c hc)⟩
        | false => exact ⟨Or.inr rfl, f4, f3⟩
theorem orders_ok {W : Nat → Int32} {all : Nat} (hW : WG W) : ∀ (n e b : Nat) (m : Nat → Nat → Int32), e + n = all → b = 81 * e → OL m b → LG m W b → OK3 b m (q_orders W all n e m) := by
  intro n
  induction n with
  | zero => intro e b m hk hb hO hL; exact ⟨isAsNow_b, fun _ _ _ => rfl, fun _ _ => rfl⟩
  | succ n ih =>
    intro e b m hk hb hO hL
    subst hb
    have h := l_orders_ok (e := e) (all := all) (b := 81 * e) (rec := q_orders W all n (e + 1)) hW (fun m' h1 h2 => ih (e + 1) (81 * e + 81) m' (by omega) (by omega) h1 h2) (nv W 9) 0 m (by omega) hO hL
    exact h
theorem c_orders {σ : Nat → Nat × (Nat → Int32)} {yy : (Nat → Nat → Int64) × Bool × Nat × Nat} {W : Nat → Int32} {all : Nat} (hW : WG W) (hal : all ≤ 10) : ∀ (n e b : Nat) (m : Nat → Nat → Int32), e + n = all → b = 81 * e → OL m b → LG m W b → zF σ (n + 6) 1905 [.ref 137, .int (Int32.ofNat e), .int (Int32.ofNat all)] (zS1, zrow m 138 W, yy) (.inl (some (.int (q_orders W all n e m).1))) (zS1, zrow (q_orders W all n e m).2 138 W, yy) := by
  intro n
  induction n with
  | zero =>
    intro e b m hk hb hO hL d hd
    subst hb
    obtain ⟨d, rfl⟩ : ∃ k, d = k + 1 := ⟨d - 1, by omega⟩
    exact p_ordersE (e := e) (all := all) (by omega) (by omega) (by omega) hW
  | succ n ih =>
    intro e b m hk hb hO hL d hd
    subst hb
    obtain ⟨d, rfl⟩ : ∃ k, d = k + 1 := ⟨d - 1, by omega⟩
    exact p_ordersN (e := e) (all := all) (rec := q_orders W all n (e + 1)) (hr := n + 6) (by omega) (by omega) (by omega) hal hW (by omega) (fun m' h1 h2 => ⟨ih (e + 1) (81 * e + 81) m' (by omega) (by omega) h1 h2, (orders_ok hW n (e + 1) (81 * e + 81) m' (by omega) (by omega) h1 h2).1, (orders_ok hW n (e + 1) (81 * e + 81) m' (by omega) (by omega) h1 h2).2.1, fun c hc => (orders_ok hW n (e + 1) (81 * e + 81) m' (by omega) (by omega) h1 h2).2.2 c (by omega)⟩) hO hL
noncomputable def ptn (W : Nat → Int32) (t : Nat) : Nat := (q_partsOf W t).toNatClampNeg
theorem l_partsOf_n {W : Nat → Int32} {t : Nat} : ∀ (n c p : Nat), ∃ v, v ≤ c + n ∧ l_partsOf W t n c p = Int32.ofNat v := by
  intro n
  induction n with
  | zero => intro c p; exact ⟨c, by omega, rfl⟩
  | succ n ih =>
    intro c p
    unfold l_partsOf
    cases zc2 .ge (Int32.ofNat p) (Int32.ofNat (nv W (376 + 103 * t + 22))) with
    | true => exact ⟨c, by omega, rfl⟩
    | false =>
      obtain ⟨v, h1, h2⟩ := ih (c + 1) (bpn W t p)
      exact ⟨v, by omega, h2⟩
theorem pt_n {W : Nat → Int32} {t : Nat} (hW : WG W) (ht : t < 4) : q_partsOf W t = Int32.ofNat (ptn W t) ∧ ptn W t ≤ 24 := by
  have h24 := (hW.2 t ht).2.2.2.1.2.2
  obtain ⟨v, h1, h2⟩ := l_partsOf_n (W := W) (t := t) (nv W (376 + 103 * t + 22)) 0 0
  unfold ptn
  have e : q_partsOf W t = Int32.ofNat v := h2
  rw [e, nv_on (by omega)]
  exact ⟨rfl, by omega⟩
noncomputable def l_allParts (W : Nat → Int32) : Nat → Nat → Nat → Nat × Nat
  | 0, a, t => (a, t)
  | n + 1, a, t => (l_allParts W n ((a + (ptn W t))) ((t + 1)))
theorem w_allParts {σ : Nat → Nat × (Nat → Int32)} {yy : (Nat → Nat → Int64) × Bool × Nat × Nat} {m : Nat → Nat → Int32} {W : Nat → Int32} {k : Int32} {d : Nat} {o : zO} {M9 : zMem} (hd : 7 ≤ d + 1) (hW : WG W) (hN4 : nv W 9 ≤ 4) : ∀ (n : Nat) (a : Nat) (t : Nat), t + n = nv W 9 → a ≤ 24 * t → zEv σ (d + 1) 1906 31 [some (.ref 137), some (.int k), some (.int (Int32.ofNat (l_allParts W n a t).1)), some (.int (Int32.ofNat (l_allParts W n a t).2))] [] (zS1, zrow m 138 W, yy) o M9 → zEv σ (d + 1) 1906 9 [some (.ref 137), some (.int k), some (.int (Int32.ofNat a)), some (.int (Int32.ofNat t))] [] (zS1, zrow m 138 W, yy) o M9 := by
  intro n
  induction n with
  | zero =>
    intro a t hk ha kk
    refine zeP rfl rfl ?_
    refine zeP rfl rfl ?_
    refine zeCF rfl rfl rfl rfl rfl rfl (c_threads (m := m) (W := W)  ) (by omega) ?_
    dsimp only [Option.toList, List.cons_append, List.nil_append]
    rw [(show q_threads W = Int32.ofNat (nv W 9) from hW.N)]
    refine zeT2 rfl rfl (zcge (by omega) (by omega) (by omega)) ?_
    simp only [l_allParts, cond_true, cond_false] at kk
    exact kk
  | succ n ih =>
    intro a t hk ha kk
    refine zeP rfl rfl ?_
    refine zeP rfl rfl ?_
    refine zeCF rfl rfl rfl rfl rfl rfl (c_threads (m := m) (W := W)  ) (by omega) ?_
    dsimp only [Option.toList, List.cons_append, List.nil_append]
    rw [(show q_threads W = Int32.ofNat (nv W 9) from hW.N)]
    refine zeF2 rfl rfl (zcge_f (by omega) (by omega) (by omega)) ?_
    refine zeP rfl rfl ?_
    refine zeP rfl rfl ?_
    refine zeP rfl rfl ?_
    refine zeCF rfl rfl rfl rfl rfl rfl (c_partsOf (m := m) (W := W) (t := t) hW (by omega)) (by omega) ?_
    dsimp only [Option.toList, List.cons_append, List.nil_append]
    rw [(pt_n hW (by omega)).1]
    refine zeAdd rfl ?_
    refine zeP rfl rfl ?_
    refine zeInc rfl rfl ?_
    refine zeP rfl rfl ?_
    simp only [l_allParts, cond_true, cond_false] at kk
    exact ih ((a + (ptn W t))) ((t + 1))   (by omega) (by have := (pt_n hW (show t < 4 by omega)).2; omega) kk
theorem allParts_le {W : Nat → Int32} (hW : WG W) : ∀ (n a t : Nat), t + n = nv W 9 → a ≤ 24 * t → (l_allParts W n a t).1 ≤ 96 := by
  have := hW.N4
  intro n
  induction n with
  | zero => intro a t h1 h2; show a ≤ 96; omega
  | succ n ih =>
    intro a t h1 h2
    unfold l_allParts
    have := (pt_n hW (show t < 4 by omega)).2
    exact ih _ _ (by omega) (by omega)
noncomputable def l_firstL (W : Nat → Int32) : Nat → Nat → (Nat → Nat → Int32) → Nat × (Nat → Nat → Int32)
  | 0, i, m => (i, m)
  | n + 1, i, m => (bif zc2 .ge (Int32.ofNat i) (Int32.ofNat 32) then (l_firstL W n ((i + 1)) ((zm2 m 143 i ((Int32.ofNat 0))))) else (l_firstL W n ((i + 1)) ((zm2 m 143 i ((W (64 + i)))))))
theorem w_firstL {σ : Nat → Nat × (Nat → Int32)} {yy : (Nat → Nat → Int64) × Bool × Nat × Nat} {W : Nat → Int32} {k : Int32} {a : Nat} {d : Nat} {o : zO} {M9 : zMem} (hd : 1 ≤ d + 1) : ∀ (n : Nat) (i : Nat) (m : Nat → Nat → Int32), i + n = 81 → zEv σ (d + 1) 1906 96 [some (.ref 137), some (.int k), some (.int (Int32.ofNat a)), some (.int (Int32.ofNat (l_firstL W n i m).1))] [] (zS1, zrow ((l_firstL W n i m).2) 138 W, yy) o M9 → zEv σ (d + 1) 1906 59 [some (.ref 137), some (.int k), some (.int (Int32.ofNat a)), some (.int (Int32.ofNat i))] [] (zS1, zrow m 138 W, yy) o M9 := by
  intro n
  induction n with
  | zero =>
    intro i m hk kk
    refine zeP rfl rfl ?_
    refine zeKn (c := 81) rfl rfl rfl ?_
    refine zeT2 rfl rfl (zcge (by omega) (by omega) (by omega)) ?_
    simp only [l_firstL, cond_true, cond_false] at kk
    exact kk
  | succ n ih =>
    intro i m hk kk
    refine zeP rfl rfl ?_
    refine zeKn (c := 81) rfl rfl rfl ?_
    refine zeF2 rfl rfl (zcge_f (by omega) (by omega) (by omega)) ?_
    refine zeP rfl rfl ?_
    refine zeGR rfl rfl zS137 rfl rfl ?_
    refine zeP rfl rfl ?_
    refine zeP rfl rfl ?_
    refine zeKn (c := 32) rfl rfl rfl ?_
    refine zeB2 rfl rfl (fun h1 => ?_) (fun h1 => ?_)
    · refine zeKn (c := 0) rfl rfl rfl ?_
      refine zeQS (a := 143) (k := i) rfl (by decide) rfl rfl (by omega) ?_
      refine zeInc rfl rfl ?_
      refine zeP rfl rfl ?_
      simp only [l_firstL, h1, cond_true, cond_false] at kk
      exact ih ((i + 1))  ((zm2 m 143 i ((Int32.ofNat 0)))) (by omega)  kk
    · refine zeP rfl rfl ?_
      refine zeGR rfl rfl zS137 rfl rfl ?_
      refine zeKn (c := 64) rfl rfl rfl ?_
      refine zeP rfl rfl ?_
      refine zeAdd rfl ?_
      refine zeWL (k := (64 + i)) rfl (by omega) ?_
      refine zeP rfl rfl ?_
      refine zeQS (a := 143) (k := i) rfl (by decide) rfl rfl (by omega) ?_
      refine zeInc rfl rfl ?_
      refine zeP rfl rfl ?_
      simp only [l_firstL, h1, cond_true, cond_false] at kk
      exact ih ((i + 1))  ((zm2 m 143 i ((W (64 + i))))) (by omega)  kk
theorem firstL_v {W : Nat → Int32} : ∀ (n i : Nat) (m : Nat → Nat → Int32), i + n = 81 → (∀ j, j ≠ 143 → (l_firstL W n i m).2 j = m j) ∧ (∀ c, c < i → (l_firstL W n i m).2 143 c = m 143 c) ∧ ∀ c, i ≤ c → c < 81 → (l_firstL W n i m).2 143 c = if c < 32 then W (64 + c) else Int32.ofNat 0 := by
  intro n
  induction n with
  | zero => intro i m hk; exact ⟨fun _ _ => rfl, fun _ _ => rfl, fun c h1 h2 => absurd h1 (by omega)⟩
  | succ n ih =>
    intro i m hk
    unfold l_firstL
    cases h1 : zc2 .ge (Int32.ofNat i) (Int32.ofNat 32) with
    | true =>
      have := tge_t (by omega) (by omega) h1
      obtain ⟨g1, g2, g3⟩ := ih (i + 1) (zm2 m 143 i (Int32.ofNat 0)) (by omega)
      refine ⟨fun j hj => (g1 j hj).trans (zm2_i _ _ hj), fun c hc => (g2 c (by omega)).trans (zm2_k _ _ (by omega)), fun c hc hc2 => ?_⟩
      by_cases e : c = i
      · subst e
        rw [if_neg (by omega)]
        exact (g2 c (by omega)).trans (zm2_a _ _ _ _)
      · exact g3 c (by omega) hc2
    | false =>
      have := tge_f (by omega) (by omega) h1
      obtain ⟨g1, g2, g3⟩ := ih (i + 1) (zm2 m 143 i (W (64 + i))) (by omega)
      refine ⟨fun j hj => (g1 j hj).trans (zm2_i _ _ hj), fun c hc => (g2 c (by omega)).trans (zm2_k _ _ (by omega)), fun c hc hc2 => ?_⟩
      by_cases e : c = i
      · subst e
        rw [if_pos (by omega)]
        exact (g2 c (by omega)).trans (zm2_a _ _ _ _)
      · exact g3 c (by omega) hc2
theorem firstL_O {m : Nat → Nat → Int32} {W : Nat → Int32} : OL (l_firstL W 81 0 m).2 0 := by
  have h := (firstL_v (W := W) 81 0 m rfl).2.2 40 (by omega) (by omega)
  unfold OL
  rw [if_neg (by omega)] at h
  rw [show 0 + 40 = 40 from rfl, h]
  exact ⟨rfl, by decide⟩
theorem firstL_L {m : Nat → Nat → Int32} {W : Nat → Int32} : LG (l_firstL W 81 0 m).2 W 0 := by
  intro t ht
  have h := (firstL_v (W := W) 81 0 m rfl).2.2 (36 + t) (by omega) (by omega)
  unfold fr
  rw [show 0 + 36 + t = 36 + t by omega, h, if_neg (by omega)]
  exact ⟨rfl, Nat.zero_le _⟩
noncomputable def q_serial (m : Nat → Nat → Int32) (W : Nat → Int32) (v : Int32) : Int32 × (Nat → Nat → Int32) := (bif zc1 .eq (q_areAllDone W) then ((-1), (zm2 m 137 0 (Int32.ofNat 0))) else (bif zc2 .gt (Int32.ofNat (l_allParts W ((nv W 9)) 0 0).1) (Int32.ofNat 10) then ((-1), (zm2 m 137 0 (Int32.ofNat 0))) else (bif zc1 .ne (q_in v ((Int32.ofNat 0)) (((Int32.ofNat (l_allParts W ((nv W 9)) 0 0).1) - (Int32.ofNat 1)))) then (bif zc1 .eq (q_orders W ((l_allParts W ((nv W 9)) 0 0).1) ((l_allParts W ((nv W 9)) 0 0).1) 0 ((l_firstL W 81 0 ((zm2 m 137 0 (Int32.ofNat 0)))).2)).1 then ((-1), (q_orders W ((l_allParts W ((nv W 9)) 0 0).1) ((l_allParts W ((nv W 9)) 0 0).1) 0 ((l_firstL W 81 0 ((zm2 m 137 0 (Int32.ofNat 0)))).2)).2) else ((((q_orders W ((l_allParts W ((nv W 9)) 0 0).1) ((l_allParts W ((nv W 9)) 0 0).1) 0 ((l_firstL W 81 0 ((zm2 m 137 0 (Int32.ofNat 0)))).2)).2) 144 ((v.toNatClampNeg))), (q_orders W ((l_allParts W ((nv W 9)) 0 0).1) ((l_allParts W ((nv W 9)) 0 0).1) 0 ((l_firstL W 81 0 ((zm2 m 137 0 (Int32.ofNat 0)))).2)).2)) else ((-1), (zm2 m 137 0 (Int32.ofNat 0))))))
theorem p_serial {σ : Nat → Nat × (Nat → Int32)} {yy : (Nat → Nat → Int64) × Bool × Nat × Nat} {m : Nat → Nat → Int32} {W : Nat → Int32} {v : Int32} {d : Nat} (hd : 17 ≤ d + 1) (hW : WG W) : zEv σ (d + 1) 1906 0 [some (.ref 137), some (.int v), none, none] [] (zS1, zrow m 138 W, yy) (.inl (some (.int (q_serial m W v).1))) (zS1, zrow ((q_serial m W v).2) 138 W, yy) := by
  refine zeP rfl rfl ?_
  refine zeKn (c := 0) rfl rfl rfl ?_
  refine zeFP rfl rfl rfl ?_
  refine zeKn (c := 0) rfl rfl rfl ?_
  refine zeP rfl rfl ?_
  refine zeKn (c := 0) rfl rfl rfl ?_
  refine zeP rfl rfl ?_
  refine w_allParts (k := v) (W := W) (m := (zm2 m 137 0 (Int32.ofNat 0))) (by omega) hW hW.N4 ((nv W 9)) (0) (0)   (by omega) (Nat.zero_le _) ?_
  refine zeP rfl rfl ?_
  refine zeCF rfl rfl rfl rfl rfl rfl (c_areAllDone (m := (zm2 m 137 0 (Int32.ofNat 0))) (W := W)  hW.N hW.N4) (by omega) ?_
  dsimp only [Option.toList, List.cons_append, List.nil_append]
  refine zeB1 rfl rfl (fun h1 => ?_) (fun h1 => ?_)
  · refine zeK (v := -1) rfl rfl rfl ?_
    exact zeRe rfl rfl rfl rfl (by simp only [q_serial, h1, cond_true, cond_false] <;> rfl) (by simp only [q_serial, h1, cond_true, cond_false] <;> rfl)
  · refine zeP rfl rfl ?_
    refine zeKn (c := 10) rfl rfl rfl ?_
    refine zeB2 rfl rfl (fun h2 => ?_) (fun h2 => ?_)
    · refine zeK (v := -1) rfl rfl rfl ?_
      exact zeRe rfl rfl rfl rfl (by simp only [q_serial, h1, h2, cond_true, cond_false] <;> rfl) (by simp only [q_serial, h1, h2, cond_true, cond_false] <;> rfl)
    · refine zeP rfl rfl ?_
      refine zeKn (c := 0) rfl rfl rfl ?_
      refine zeP rfl rfl ?_
      refine zeKn (c := 1) rfl rfl rfl ?_
      refine zeP rfl rfl ?_
      refine zeCF rfl rfl rfl rfl rfl rfl (c_in (m := (zm2 m 137 0 (Int32.ofNat 0))) (W := W) (v := v) (lo := (Int32.ofNat 0)) (hi := ((Int32.ofNat (l_allParts W ((nv W 9)) 0 0).1) - (Int32.ofNat 1))) ) (by omega) ?_
      dsimp only [Option.toList, List.cons_append, List.nil_append]
      refine zeB1 rfl rfl (fun h3 => ?_) (fun h3 => ?_)
      · have cv : v = Int32.ofNat v.toNatClampNeg ∧ v.toNatClampNeg < (l_allParts W (nv W 9) 0 0).1 := (in_n (by have := (allParts_le hW (nv W 9) 0 0 (by omega) (by omega)); omega) h3)
        refine zeKn (c := 0) rfl rfl rfl ?_
        refine zeP rfl rfl ?_
        refine w_firstL (k := v) (a := (l_allParts W ((nv W 9)) 0 0).1) (W := W) (by omega)  81 (0)  ((zm2 m 137 0 (Int32.ofNat 0))) (by omega)  ?_
        refine zeP rfl rfl ?_
        refine zeKn (c := 0) rfl rfl rfl ?_
        refine zeP rfl rfl ?_
        refine zeCF rfl rfl rfl rfl rfl rfl ((c_orders (W := W) (all := (l_allParts W ((nv W 9)) 0 0).1) hW (zgt_le (by have := (allParts_le hW (nv W 9) 0 0 (by omega) (by omega)); omega) (by omega) h2) ((l_allParts W ((nv W 9)) 0 0).1) 0 0 ((l_firstL W 81 0 ((zm2 m 137 0 (Int32.ofNat 0)))).2) (by omega) rfl firstL_O firstL_L).up (h' := 16) (by have := (zgt_le (by have := (allParts_le hW (nv W 9) 0 0 (by omega) (by omega)); omega) (by omega) h2); omega)) (by omega) ?_
        dsimp only [Option.toList, List.cons_append, List.nil_append]
        refine zeB1 rfl rfl (fun h4 => ?_) (fun h4 => ?_)
        · refine zeK (v := -1) rfl rfl rfl ?_
          exact zeRe rfl rfl rfl rfl (by simp only [q_serial, h1, h2, h3, h4, cond_true, cond_false] <;> rfl) (by simp only [q_serial, h1, h2, h3, h4, cond_true, cond_false] <;> rfl)
        · refine zeP rfl rfl ?_
          refine zeGR rfl rfl zS137 rfl rfl ?_
          refine zeKn (c := v.toNatClampNeg) rfl rfl cv.1 ?_
          refine zeQL (a := 144) (k := (v.toNatClampNeg)) rfl rfl (by decide) rfl rfl (by have := cv.2; have := (zgt_le (by have := (allParts_le hW (nv W 9) 0 0 (by omega) (by omega)); omega) (by omega) h2); omega) ?_
          refine zeP rfl rfl ?_
          exact zeRe rfl rfl rfl rfl (by simp only [q_serial, h1, h2, h3, h4, cond_true, cond_false] <;> rfl) (by simp only [q_serial, h1, h2, h3, h4, cond_true, cond_false] <;> rfl)
      · refine zeK (v := -1) rfl rfl rfl ?_
        exact zeRe rfl rfl rfl rfl (by simp only [q_serial, h1, h2, h3, cond_true, cond_false] <;> rfl) (by simp only [q_serial, h1, h2, h3, cond_true, cond_false] <;> rfl)
theorem c_serial {σ : Nat → Nat × (Nat → Int32)} {yy : (Nat → Nat → Int64) × Bool × Nat × Nat} {m : Nat → Nat → Int32} {W : Nat → Int32} {v : Int32} (hW : WG W) : zF σ 17 1906 [.ref 137, .int v] (zS1, zrow m 138 W, yy) (.inl (some (.int (q_serial m W v).1))) (zS1, zrow ((q_serial m W v).2) 138 W, yy) := by
  intro d hd
  obtain ⟨d, rfl⟩ : ∃ k, d = k + 1 := ⟨d - 1, by omega⟩
  exact p_serial hd hW
/-- serial writes its own rows and the code of a throw -/
theorem serial_fr {m : Nat → Nat → Int32} {W : Nat → Int32} {v : Int32} (hW : WG W) : ∀ i, i ≠ 137 → i ≠ 143 → i ≠ 144 → (q_serial m W v).2 i = m i := by
  intro i h1 h2 h3
  have e0 : zm2 m 137 0 (Int32.ofNat 0) i = m i := zm2_i _ _ h1
  unfold q_serial
  refine cnd4 (fun X : Int32 × (Nat → Nat → Int32) => X.2 i = m i) (fun _ => e0) (fun _ => cnd4 (fun X : Int32 × (Nat → Nat → Int32) => X.2 i = m i) (fun _ => e0) (fun _ => cnd4 (fun X : Int32 × (Nat → Nat → Int32) => X.2 i = m i) (fun _ => ?_) (fun _ => e0)))
  have key : (q_orders W (l_allParts W (nv W 9) 0 0).1 (l_allParts W (nv W 9) 0 0).1 0 (l_firstL W 81 0 (zm2 m 137 0 (Int32.ofNat 0))).2).2 i = m i := by
    refine ((orders_ok hW _ 0 0 _ (by omega) rfl firstL_O firstL_L).2.1 i h2 h3).trans ?_
    exact ((firstL_v (W := W) 81 0 _ rfl).1 i h2).trans e0
  exact cnd4 (fun X : Int32 × (Nat → Nat → Int32) => X.2 i = m i) (fun _ => key) (fun _ => key)
theorem serial_137 {m : Nat → Nat → Int32} {W : Nat → Int32} {v : Int32} (hW : WG W) : ∀ k, k ≠ 0 → (q_serial m W v).2 137 k = m 137 k := by
  intro k hk
  have e0 : zm2 m 137 0 (Int32.ofNat 0) 137 k = m 137 k := zm2_k _ _ hk
  unfold q_serial
  refine cnd4 (fun X : Int32 × (Nat → Nat → Int32) => X.2 137 k = m 137 k) (fun _ => e0) (fun _ => cnd4 (fun X : Int32 × (Nat → Nat → Int32) => X.2 137 k = m 137 k) (fun _ => e0) (fun _ => cnd4 (fun X : Int32 × (Nat → Nat → Int32) => X.2 137 k = m 137 k) (fun _ => ?_) (fun _ => e0)))
  have key : (q_orders W (l_allParts W (nv W 9) 0 0).1 (l_allParts W (nv W 9) 0 0).1 0 (l_firstL W 81 0 (zm2 m 137 0 (Int32.ofNat 0))).2).2 137 k = m 137 k := by
    rw [(orders_ok hW _ 0 0 _ (by omega) rfl firstL_O firstL_L).2.1 137 (by decide) (by decide), (firstL_v (W := W) 81 0 _ rfl).1 137 (by decide)]
    exact e0
  exact cnd4 (fun X : Int32 × (Nat → Nat → Int32) => X.2 137 k = m 137 k) (fun _ => key) (fun _ => key)
