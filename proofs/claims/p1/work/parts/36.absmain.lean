/-! the reference's copies, and the main row -/
def zcpm (m : Nat → Nat → Int32) (a b t : Nat) : Nat → Nat → Int32 := fun i k => if i = b ∧ k < t then m a k else m i k
theorem zcpm_step (m : Nat → Nat → Int32) {a b : Nat} (hab : a ≠ b) (t : Nat) : zm2 (zcpm m a b t) b t (zcpm m a b t a t) = zcpm m a b (t + 1) := by
  funext i k
  unfold zm2 zcpm upd
  have e1 : (if a = b ∧ t < t then m a t else m a t) = m a t := by split <;> rfl
  rw [e1]
  by_cases hi : i = b
  · subst hi
    rw [if_pos rfl]
    try dsimp only
    by_cases hk : k = t
    · subst hk
      rw [if_pos rfl, if_pos ⟨rfl, Nat.lt_succ_self _⟩]
    · rw [if_neg hk]
      by_cases hl : k < t
      · rw [if_pos ⟨rfl, hl⟩, if_pos ⟨rfl, Nat.lt_succ_of_lt hl⟩]
      · rw [if_neg (fun q => hl q.2), if_neg (fun q => by omega)]
  · rw [if_neg hi]
    try dsimp only
    rw [if_neg (fun q => hi q.1), if_neg (fun q => hi q.1)]
theorem z788 : (Int16.ofInt 788).toInt32.toInt = 788 := by decide +kernel
theorem zi31 {t : Nat} (h : t < 789) : t < 2 ^ 31 := Nat.lt_trans h (by decide)
theorem zcpc {t : Nat} (h : t < 788) : zc2 .ge (Int32.ofNat t) (Int16.ofInt 788).toInt32 = false := by
  unfold zc2
  apply decide_eq_false
  rw [Int32.le_iff_toInt_le, z788, Int32.toInt_ofNat_of_lt (zi31 (by omega))]
  omega
theorem zcpo {t : Nat} (h : t < 788) : zoutB (Int32.ofNat t) 788 = false := by
  unfold zoutB
  rw [Bool.or_eq_false_iff]
  constructor
  · apply decide_eq_false
    rw [Int32.lt_iff_toInt_lt, Int32.toInt_zero, Int32.toInt_ofNat_of_lt (zi31 (by omega))]
    omega
  · apply decide_eq_false
    rw [Int32.toNatClampNeg_ofNat_of_lt (zi31 (by omega))]
    omega
theorem zcpi (t : Nat) (_ : t < 788) : Int32.ofNat t + Int32.ofInt 1 = Int32.ofNat (t + 1) := by
  rw [Int32.ofNat_add]
  rfl
theorem zcp_loop {σ : Nat → Nat × (Nat → Int32)} {d a b : Nat} {S : List (Nat × Nat × List Nat)} {m : Nat → Nat → Int32} {y : (Nat → Nat → Int64) × Bool × Nat × Nat} {ra rb : List Nat} (hab : a ≠ b) (ha : Nat.blt a 1000 = true) (hA : S[a]? = some (10, 788, ra)) (hB : S[b]? = some (10, 788, rb)) : ∀ (n t : Nat), t + n = 788 → zEv σ d 1806 2 [some (.ref a), some (.ref b), some (.int (Int32.ofNat t))] [] (S, zcpm m a b t, y) (.inl none) (S, zcpm m a b 788, y) := by
  intro n
  induction n with
  | zero =>
    intro t ht
    have ht' : t = 788 := by omega
    subst ht'
    refine zeP (i := .iload_n 2) (len := 1) rfl rfl ?_
    refine zeP (i := .sipush 788) (len := 3) rfl rfl ?_
    refine zeP (i := .if_icmp .ge 15) (len := 3) (pc' := 21) (lv' := [some (.ref a), some (.ref b), some (.int (Int32.ofNat 788))]) (st' := []) rfl ?_ ?_
    · have h1 : zc2 .ge (Int32.ofNat 788) (Int16.ofInt 788).toInt32 = true := by decide +kernel
      show zbr (zc2 .ge (Int32.ofNat 788) (Int16.ofInt 788).toInt32) 6 15 [some (.ref a), some (.ref b), some (.int (Int32.ofNat 788))] [] = _
      unfold zbr
      rw [h1]
      rfl
    · exact zeR (i := .return_) (len := 1) rfl rfl rfl rfl
  | succ n ih =>
    intro t ht
    have hlt : t < 788 := by omega
    have hc := zcpc hlt
    have ho := zcpo hlt
    have hk : (Int32.ofNat t).toNatClampNeg = t := Int32.toNatClampNeg_ofNat_of_lt (zi31 (by omega))
    refine zeP (i := .iload_n 2) (len := 1) rfl rfl ?_
    refine zeP (i := .sipush 788) (len := 3) rfl rfl ?_
    refine zeP (i := .if_icmp .ge 15) (len := 3) (pc' := 9) (lv' := [some (.ref a), some (.ref b), some (.int (Int32.ofNat t))]) (st' := []) rfl ?_ ?_
    · show zbr (zc2 .ge (Int32.ofNat t) (Int16.ofInt 788).toInt32) 6 15 [some (.ref a), some (.ref b), some (.int (Int32.ofNat t))] [] = _
      unfold zbr
      rw [hc]
      rfl
    refine zeP (i := .aload_n 1) (len := 1) rfl rfl ?_
    refine zeP (i := .iload_n 2) (len := 1) rfl rfl ?_
    refine zeP (i := .aload_n 0) (len := 1) rfl rfl ?_
    refine zeP (i := .iload_n 2) (len := 1) rfl rfl ?_
    refine zeS (i := .iaload) (len := 1) (pc' := 14) (st' := [.int (zcpm m a b t a t), .int (Int32.ofNat t), .ref b]) (M1 := (S, zcpm m a b t, y)) rfl rfl ?_ ?_
    · simp only [zS, ziald, ha, cond_true, hA, beq_self_eq_true, ho, Bool.not_false, Bool.and_self, hk]
    refine zeS (i := .iastore) (len := 1) (pc' := 15) (st' := []) (M1 := (S, zcpm m a b (t + 1), y)) rfl rfl ?_ ?_
    · simp only [zS, ziast, hB, beq_self_eq_true, ho, Bool.not_false, Bool.and_self, cond_true, hk, zcpm_step m hab t]
    refine zeP (i := .iinc 2 1) (len := 3) (pc' := 18) (lv' := [some (.ref a), some (.ref b), some (.int (Int32.ofNat (t + 1)))]) (st' := []) rfl ?_ ?_
    · rw [← zcpi t hlt]
      rfl
    refine zeP (i := .goto (-16)) (len := 3) rfl rfl ?_
    exact ih (t + 1) (by omega)
theorem zcp_all {σ : Nat → Nat × (Nat → Int32)} {d a b : Nat} {S : List (Nat × Nat × List Nat)} {m : Nat → Nat → Int32} {y : (Nat → Nat → Int64) × Bool × Nat × Nat} {ra rb : List Nat} (hab : a ≠ b) (ha : Nat.blt a 1000 = true) (hA : S[a]? = some (10, 788, ra)) (hB : S[b]? = some (10, 788, rb)) : zCal σ d 1806 [.ref a, .ref b] (S, m, y) (.inl none) (S, zcpm m a b 788, y) := by
  have h0 : zcpm m a b 0 = m := by
    funext i k
    unfold zcpm
    rw [if_neg (fun q => Nat.not_lt_zero _ q.2)]
  have h1 := zcp_loop (σ := σ) (d := d) (m := m) (y := y) hab ha hA hB 788 0 rfl
  rw [h0] at h1
  show zEv σ d 1806 0 [some (.ref a), some (.ref b), none] [] _ _ _
  refine zeP (i := .iconst 0) (len := 1) rfl rfl ?_
  refine zeP (i := .istore_n 2) (len := 1) (pc' := 2) (lv' := [some (.ref a), some (.ref b), some (.int (Int32.ofNat 0))]) (st' := []) rfl ?_ h1
  rfl
section ZYD
variable {ρ : Nat → Int32} {τ : Nat → Nat × (Nat → zyV)} {σ : Nat → Nat × (Nat → Int32)}
theorem zycop_ok {E : zyE} {as : List zyV} {A : zyM} {l : List (zyE × zyO × zyM)} {d : Nat} {ws : List Value} {M : zMem} (h : zycop E as A = some l) (hK : zyK ρ E) (hs : zyRs ρ as ws) (hM : zyMR ρ A M) : ∃ q ∈ l, ∃ o M', zyK ρ q.1 ∧ zyOR ρ q.2.1 o ∧ zyMR ρ q.2.2 M' ∧ zCal σ d 1806 ws M o M' := by
  unfold zycop at h
  split at h
  · rename_i a b
    obtain ⟨z1, s, rfl, h1, q1⟩ := zyRs_cons hs
    obtain ⟨z2, s, rfl, h2, q2⟩ := zyRs_cons q1
    obtain rfl := zyRs_nil q2
    have h1' : z1 = .ref a := h1
    have h2' : z2 = .ref b := h2
    subst h1' h2'
    split at h
    · rename_i ra rb hA hB
      rw [cond_eq_ite] at h
      split at h
      · rename_i hb
        cases h
        rw [Bool.and_eq_true, Bool.and_eq_true] at hb
        have hab : a ≠ b := by
          intro e
          have := hb.2
          rw [show Nat.beq a b = true from e ▸ Nat.beq_refl a] at this
          cases this
        obtain ⟨S, m, y⟩ := M
        have hS : S = A.1 := hM.1
        refine ⟨_, List.mem_singleton.mpr rfl, .inl none, (S, zcpm m a b 788, y), hK, trivial, ⟨hM.1, fun i k => ?_, hM.2.2⟩, zcp_all hab hb.1.1 (hS ▸ hA) (hS ▸ hB)⟩
        show zyR ρ (bif Nat.beq i b && Nat.blt k 788 then A.2.1 a k else A.2.1 i k) (.int (zcpm m a b 788 i k))
        unfold zcpm
        by_cases hc : i = b ∧ k < 788
        · have e1 : Nat.beq i b = true := hc.1 ▸ Nat.beq_refl i
          have e2 : Nat.blt k 788 = true := Nat.ble_eq_true_of_le hc.2
          rw [if_pos hc, e1, e2, Bool.and_self, cond_true]
          exact hM.2.1 a k
        · have e1 : (Nat.beq i b && Nat.blt k 788) = false := by
            cases hx : (Nat.beq i b && Nat.blt k 788) with
            | false => rfl
            | true =>
              rw [Bool.and_eq_true] at hx
              exact absurd ⟨Nat.eq_of_beq_eq_true hx.1, Nat.le_of_ble_eq_true hx.2⟩ hc
          rw [if_neg hc, e1, cond_false]
          exact hM.2.1 i k
      · cases h
    · cases h
  · cases h
theorem zyall_mem {α β : Type} {f : α → Option (List β)} {q : α} : ∀ {l : List α} {outs : List β}, zyall f l = some outs → q ∈ l → ∃ l1, f q = some l1 ∧ ∀ x ∈ l1, x ∈ outs := by
  intro l
  induction l with
  | nil => intro outs _ hq; cases hq
  | cons a r ih =>
    intro outs h hq
    rw [zyall] at h
    cases ha : f a with
    | none => simp only [ha] at h; cases h
    | some l1 =>
      simp only [ha] at h
      cases hr : zyall f r with
      | none => simp only [hr] at h; cases h
      | some l2 =>
        simp only [hr] at h
        cases h
        rcases List.mem_cons.mp hq with rfl | hq
        · exact ⟨l1, ha, fun x hx => List.mem_append_left _ hx⟩
        · obtain ⟨l3, h3, h4⟩ := ih hr hq
          exact ⟨l3, h3, fun x hx => List.mem_append_right _ (h4 x hx)⟩
theorem zyarg_get {m : Nat} : ∀ {as : List zyV} {ws : List Value}, zyRs ρ as ws → ∀ (k : Nat) (v : zyV), (as.map some ++ List.replicate m none)[k]? = some (some v) → ∃ w, (ws.map some ++ List.replicate m none)[k]? = some (some w) ∧ zyR ρ v w := by
  intro as
  induction as with
  | nil =>
    intro ws hs k v h
    rw [List.map_nil, List.nil_append, List.getElem?_replicate] at h
    split at h
    · cases h
    · cases h
  | cons a r ih =>
    intro ws hs k v h
    obtain ⟨z, s, rfl, h3, h4⟩ := zyRs_cons hs
    cases k with
    | zero =>
      have h' : some (some a) = some (some v) := h
      cases h'
      exact ⟨z, rfl, h3⟩
    | succ k =>
      have h' : (r.map some ++ List.replicate m none)[k]? = some (some v) := h
      exact ih h4 k v h'
theorem zyarg_ok {j : Nat} {as : List zyV} {ws : List Value} (hs : zyRs ρ as ws) : zyLR ρ (zyarg j as) (zarg j ws) := by
  unfold zyarg zarg
  cases zent j with
  | none => exact ⟨rfl, fun k v h => by cases h⟩
  | some q =>
    dsimp only
    rw [zyRs_len hs]
    refine ⟨?_, zyarg_get hs⟩
    rw [List.length_append, List.length_append, List.length_map, List.length_map, zyRs_len hs, List.length_replicate, List.length_replicate]
theorem zyOR_l {v : Option zyV} {o : zO} (h : zyOR ρ (.inl v) o) : ∃ x : Option Value, o = .inl x ∧ ∀ {r : List zyV} {s : List Value}, zyRs ρ r s → zyRs ρ (v.toList ++ r) (x.toList ++ s) := by
  cases v with
  | none =>
    cases o with
    | inr e => exact absurd h (fun q => q)
    | inl x =>
      cases x with
      | some y => exact absurd h (fun q => q)
      | none => exact ⟨none, rfl, fun hr => hr⟩
  | some v =>
    cases o with
    | inr e => exact absurd h (fun q => q)
    | inl x =>
      cases x with
      | none => exact absurd h (fun q => q)
      | some y => exact ⟨some y, rfl, fun hr => ⟨h, hr⟩⟩
theorem zyOR_r {e : Nat} {o : zO} (h : zyOR ρ (.inr e) o) : o = .inr e := by
  cases o with
  | inl x => exact absurd h (fun q => q)
  | inr e' =>
    have h' : e = e' := h
    rw [h']
theorem zyrun_ok (hT : zyT ρ τ σ) : ∀ (n : Nat) (E : zyE) (d j pc : Nat) (lv : zyLv) (st : List zyV) (A : zyM) (outs : List (zyE × zyO × zyM)) (lw : zLv) (w : List Value) (M : zMem), zyrun τ n E d j pc lv st A = some outs → zyK ρ E → zyLR ρ lv lw → zyRs ρ st w → zyMR ρ A M → ∃ q ∈ outs, ∃ o M', zyK ρ q.1 ∧ zyOR ρ q.2.1 o ∧ zyMR ρ q.2.2 M' ∧ zEv σ d j pc lw w M o M' := by
  intro n
  induction n with
  | zero => intro E d j pc lv st A outs lw w M h; cases h
  | succ n ih =>
    intro E d j pc lv st A outs lw w M h hK hl hs hM
    rw [zyrun] at h
    cases hf : zfe j pc with
    | none => simp only [hf] at h; cases h
    | some x =>
      obtain ⟨i, len⟩ := x
      simp only [hf] at h
      cases hc : zycut E i st with
      | some sp =>
        obtain ⟨s, p⟩ := sp
        simp only [hc] at h
        cases h1 : zyrun τ n ((s, (zyiv E s).1, p - 1) :: E) d j pc lv st A with
        | none => simp only [h1] at h; cases h
        | some l1 =>
          simp only [h1] at h
          cases h2 : zyrun τ n ((s, p, (zyiv E s).2) :: E) d j pc lv st A with
          | none => simp only [h2] at h; cases h
          | some l2 =>
            simp only [h2] at h
            cases h
            have hiv := zyiv_ok hK s
            by_cases hp : (ρ s).toInt < p
            · have hK1 : zyK ρ ((s, (zyiv E s).1, p - 1) :: E) := by
                intro q hq
                rcases List.mem_cons.mp hq with rfl | hq
                · exact ⟨hiv.1, Int.le_sub_one_of_lt hp⟩
                · exact hK q hq
              obtain ⟨q, hq, r⟩ := ih _ _ _ _ _ _ _ _ _ _ _ h1 hK1 hl hs hM
              exact ⟨q, List.mem_append_left _ hq, r⟩
            · have hK1 : zyK ρ ((s, p, (zyiv E s).2) :: E) := by
                intro q hq
                rcases List.mem_cons.mp hq with rfl | hq
                · exact ⟨Int.not_lt.mp hp, hiv.2⟩
                · exact hK q hq
              obtain ⟨q, hq, r⟩ := ih _ _ _ _ _ _ _ _ _ _ _ h2 hK1 hl hs hM
              exact ⟨q, List.mem_append_right _ hq, r⟩
      | none =>
        simp only [hc] at h
        cases hp : zyP E (j / 200) i pc lv st with
        | some y =>
          obtain ⟨pc', lv', st'⟩ := y
          simp only [hp] at h
          obtain ⟨lw', w', e1, e2, e3⟩ := zyP_ok hK hp hl hs
          obtain ⟨q, hq, o, M', r1, r2, r3, r4⟩ := ih _ _ _ _ _ _ _ _ _ _ _ h hK e2 e3 hM
          exact ⟨q, hq, o, M', r1, r2, r3, zeP hf e1 r4⟩
        | none =>
          simp only [hp] at h
          cases hS : zyS τ E (j / 200) i pc st A with
          | some y =>
            obtain ⟨pc', st', A'⟩ := y
            simp only [hS] at h
            obtain ⟨e0, w', M1, e1, e2, e3⟩ := zyS_ok (ini := zini j) (lw := lw) hT hK hS hs hM
            obtain ⟨q, hq, o, M', r1, r2, r3, r4⟩ := ih _ _ _ _ _ _ _ _ _ _ _ h hK hl e2 e3
            exact ⟨q, hq, o, M', r1, r2, r3, zeS hf e0 e1 r4⟩
          | none =>
            simp only [hS] at h
            cases hr : zyret j i st with
            | some v =>
              simp only [hr] at h
              cases h
              obtain ⟨e0, e1, x, e2, e3⟩ := zyret_ok (c := j / 200) (pc := pc) (lw := lw) (ini := zini j) (M := M) (σ := σ) hr hs
              exact ⟨_, List.mem_singleton.mpr rfl, .inl x, M, hK, e3, hM, zeR hf e0 e1 e2⟩
            | none =>
              simp only [hr] at h
              cases ht : zthr j pc with
              | some e =>
                simp only [ht] at h
                rw [cond_eq_ite] at h
                split at h
                · rename_i hb
                  cases h
                  rw [Bool.and_eq_true] at hb
                  have hn := hb.2
                  cases i
                  case new idx =>
                    refine ⟨_, List.mem_singleton.mpr rfl, .inr e, zthM M, hK, rfl, ⟨hM.1, hM.2.1, hM.2.2.1, ?_⟩, zeT hf rfl ?_ (zret_none (by intro e; cases e) (by intro e; cases e) (by intro e; cases e)) ht ?_⟩
                    · show (false, M.2.2.2.2.1 + 1, M.2.2.2.2.2 + 6) = (false, A.2.2.2.2.1 + 1, A.2.2.2.2.2 + 6)
                      rw [hM.2.2.2]
                    · simp only [zynew] at hn
                      simp only [zS, znew]
                      rw [Option.isNone_iff_eq_none.mp hn]
                    · rw [zysum_ok hs]
                      exact hb.1
                  all_goals cases hn
                · cases h
              | none =>
                simp only [ht] at h
                cases hca : zycall (j / 200) i st A with
                | none =>
                  simp only [hca] at h
                  cases hm : zymath E (j / 200) i pc st with
                  | none => simp only [hm] at h; cases h
                  | some y =>
                    obtain ⟨pc', st'⟩ := y
                    simp only [hm] at h
                    obtain ⟨e0, e1, e2, e3, w', e4, e5⟩ := zymath_ok (lw := lw) (ini := zini j) (j := j) (M := M) (σ := σ) hK hm hs
                    obtain ⟨q, hq, o, M', r1, r2, r3, r4⟩ := ih _ _ _ _ _ _ _ _ _ _ _ h hK hl e5 hM
                    exact ⟨q, hq, o, M', r1, r2, r3, zeM hf e0 e1 e2 ht e3 e4 r4⟩
                | some y =>
                  obtain ⟨j', as, rest⟩ := y
                  simp only [hca] at h
                  cases d with
                  | zero => simp only at h; cases h
                  | succ d =>
                    simp only at h
                    obtain ⟨e0, e1, e2, as', rest', e3, e4, e5⟩ := zycall_ok (pc := pc) (lw := lw) (ini := zini j) (j := j) (σ := σ) hca hs hM
                    cases hrun : (bif Nat.beq j' 1806 then zycop E as A else zyrun τ n E d j' 0 (zyarg j' as) [] A) with
                    | none => simp only [hrun] at h; cases h
                    | some l =>
                      simp only [hrun] at h
                      have key : ∃ q ∈ l, ∃ o M1, zyK ρ q.1 ∧ zyOR ρ q.2.1 o ∧ zyMR ρ q.2.2 M1 ∧ zCal σ d j' as' M o M1 := by
                        cases hb : Nat.beq j' 1806 with
                        | true =>
                          rw [hb, cond_true] at hrun
                          obtain rfl := Nat.eq_of_beq_eq_true hb
                          exact zycop_ok hrun hK e4 hM
                        | false =>
                          rw [hb, cond_false] at hrun
                          exact ih _ _ _ _ _ _ _ _ _ _ _ hrun hK (zyarg_ok e4) trivial hM
                      obtain ⟨q, hq, o, M1, r1, r2, r3, r4⟩ := key
                      obtain ⟨l1, h5, h6⟩ := zyall_mem h hq
                      obtain ⟨E1, o1, A1⟩ := q
                      dsimp only at r1 r2 r3
                      cases o1 with
                      | inl v =>
                        simp only [zyback] at h5
                        obtain ⟨x, rfl, hx⟩ := zyOR_l r2
                        obtain ⟨q, hq, o, M', t1, t2, t3, t4⟩ := ih _ _ _ _ _ _ _ _ _ _ _ h5 r1 hl (hx e5) r3
                        exact ⟨q, h6 q hq, o, M', t1, t2, t3, zeC hf e0 e1 e2 ht e3 r4 t4⟩
                      | inr e =>
                        obtain rfl := zyOR_r r2
                        simp only [zyback] at h5
                        cases hh : zhnd j pc e with
                        | some a =>
                          simp only [hh] at h5
                          cases h5
                          exact ⟨_, h6 _ (List.mem_singleton.mpr rfl), .inl (some (.int (Int32.ofNat a))), M1, r1, rfl, r3, zeH hf e0 e1 e2 ht e3 r4 hh⟩
                        | none =>
                          simp only [hh] at h5
                          cases hn : znoH j with
                          | false => rw [hn, cond_false] at h5; cases h5
                          | true =>
                            rw [hn, cond_true] at h5
                            cases h5
                            exact ⟨_, h6 _ (List.mem_singleton.mpr rfl), .inr e, M1, r1, rfl, r3, zeX hf e0 e1 e2 ht e3 r4 hh hn⟩
end ZYD
