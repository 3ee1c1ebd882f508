section ZYC
variable {ρ : Nat → Int32} {E : zyE} {c pc pc' : Nat} {st st' : List zyV} {w : List Value} {A A' : zyM} {M : zMem} {τ : Nat → Nat × (Nat → zyV)} {σ : Nat → Nat × (Nat → Int32)}
theorem zyup_ok {a k : Nat} {v : zyV} {x : Int32} (h : zyMR ρ A M) (hv : zyR ρ v (.int x)) : zyMR ρ (A.1, zyup A.2.1 a k v, A.2.2) (M.1, zm2 M.2.1 a k x, M.2.2) := by
  refine ⟨h.1, fun i l => ?_, h.2.2.1, h.2.2.2⟩
  show zyR ρ (zyup A.2.1 a k v i l) (.int (zm2 M.2.1 a k x i l))
  unfold zyup zm2
  by_cases hi : i = a
  · subst hi
    rw [if_pos rfl]
    unfold upd
    by_cases hk : l = k
    · subst hk
      rw [if_pos rfl, Nat.beq_refl, Nat.beq_refl, Bool.and_self, cond_true]
      exact hv
    · rw [if_neg hk]
      have : Nat.beq l k = false := by
        cases hb : Nat.beq l k with
        | false => rfl
        | true => exact absurd (Nat.eq_of_beq_eq_true hb) hk
      rw [this, Bool.and_false, cond_false]
      exact h.2.1 i l
  · rw [if_neg hi]
    have : Nat.beq i a = false := by
      cases hb : Nat.beq i a with
      | false => rfl
      | true => exact absurd (Nat.eq_of_beq_eq_true hb) hi
    rw [this, Bool.false_and, cond_false]
    exact h.2.1 i l
theorem zyupL_ok {a k : Nat} {x : Int64} (h : zyMR ρ A M) : zyMR ρ (A.1, A.2.1, zyupL A.2.2.1 a k (some x), A.2.2.2) (M.1, M.2.1, zl2 M.2.2.1 a k x, M.2.2.2) := by
  refine ⟨h.1, h.2.1, fun i l y hy => ?_, h.2.2.2⟩
  have hy' : zyupL A.2.2.1 a k (some x) i l = some y := hy
  show zl2 M.2.2.1 a k x i l = y
  unfold zyupL at hy'
  unfold zl2
  by_cases hi : i = a
  · subst hi
    rw [if_pos rfl]
    unfold vp_updL
    by_cases hk : l = k
    · subst hk
      rw [Nat.beq_refl, Nat.beq_refl, Bool.and_self, cond_true] at hy'
      rw [if_pos rfl]
      cases hy'; rfl
    · rw [if_neg hk]
      have : Nat.beq l k = false := by
        cases hb : Nat.beq l k with
        | false => rfl
        | true => exact absurd (Nat.eq_of_beq_eq_true hb) hk
      rw [this, Bool.and_false, cond_false] at hy'
      exact h.2.2.1 i l y hy'
  · rw [if_neg hi]
    have : Nat.beq i a = false := by
      cases hb : Nat.beq i a with
      | false => rfl
      | true => exact absurd (Nat.eq_of_beq_eq_true hb) hi
    rw [this, Bool.false_and, cond_false] at hy'
    exact h.2.2.1 i l y hy'
theorem zygetf_ok {idx : Nat} (h : zygetf c idx pc st A = some (pc', st', A')) (hs : zyRs ρ st w) (hM : zyMR ρ A M) : ∃ w' M', zgetf c idx pc w M = some (pc', w', M') ∧ zyRs ρ st' w' ∧ zyMR ρ A' M' := by
  unfold zygetf at h
  unfold zgetf
  cases hf : (zfp c).lookup idx with
  | none => rw [hf] at h; cases h
  | some q =>
    obtain ⟨ci, k, pl⟩ := q
    rw [hf] at h
    dsimp only at h ⊢
    split at h
    · rename_i a r
      obtain ⟨z, s, rfl, h3, h4⟩ := zyRs_cons hs
      have h3' : z = .ref a := h3
      subst h3'
      dsimp only
      rw [hM.1]
      cases hS : A.1[a]? with
      | none => rw [hS] at h; cases h
      | some q =>
        obtain ⟨kd, n, rs⟩ := q
        rw [hS] at h
        dsimp only at h ⊢
        cases hk : (kd == ci) with
        | false => rw [hk, cond_false] at h; cases h
        | true =>
          rw [hk, cond_true] at h
          rw [cond_true]
          cases ht : (zft ci)[k]? with
          | none => rw [ht] at h; cases h
          | some t =>
            rw [ht] at h
            obtain ⟨t, f⟩ := t
            by_cases h2 : t = 2
            · subst h2
              try dsimp only at h
              try dsimp only
              cases hb : zrv rs k with
              | none => rw [hb] at h; cases h
              | some b =>
                rw [hb] at h
                cases h
                exact ⟨.ref b :: s, M, rfl, ⟨rfl, h4⟩, hM⟩
            · split at h
              · rename_i e; cases e; exact absurd rfl h2
              · cases h
                refine ⟨.int (M.2.1 a k) :: s, M, ?_, ⟨hM.2.1 a k, h4⟩, hM⟩
                split
                · rename_i e; cases e; exact absurd rfl h2
                · rfl
                · rename_i e; cases e
              · rename_i e; cases e
    · cases h
theorem zyputf_ok {ini : Bool} {idx : Nat} (h : zyputf c idx pc st A = some (pc', st', A')) (hs : zyRs ρ st w) (hM : zyMR ρ A M) : ∃ w' M', zputf c ini idx pc w M = some (pc', w', M') ∧ zyRs ρ st' w' ∧ zyMR ρ A' M' := by
  unfold zyputf at h
  unfold zputf
  cases hf : (zfp c).lookup idx with
  | none => rw [hf] at h; cases h
  | some q =>
    obtain ⟨ci, k, pl⟩ := q
    rw [hf] at h
    dsimp only at h ⊢
    split at h
    · rename_i v a r
      obtain ⟨z, s, rfl, h3, h4⟩ := zyRs_cons hs
      obtain ⟨y, s, rfl, h5, h6⟩ := zyRs_cons h4
      have h5' : y = .ref a := h5
      subst h5'
      cases hS : A.1[a]? with
      | none => rw [hS] at h; cases h
      | some q =>
        obtain ⟨kd, n, rs⟩ := q
        rw [hS] at h
        dsimp only at h
        cases hk : (kd == ci) with
        | false => rw [hk, cond_false] at h; cases h
        | true =>
          rw [hk, cond_true] at h
          split at h
          · rename_i ht
            cases hi : zyI v with
            | false => rw [hi, cond_false] at h; cases h
            | true =>
              rw [hi, cond_true] at h
              cases h
              obtain ⟨x, rfl⟩ := zyI_ok hi h3
              refine ⟨s, (M.1, zm2 M.2.1 a k x, M.2.2), ?_, h6, zyup_ok hM h3⟩
              simp only [hM.1, hS, hk, ht, cond_true]
          · rename_i ht
            split at h
            · rename_i x
              have h3' : z = .int x := h3
              subst h3'
              split at h
              · rename_i hx
                cases h
                refine ⟨s, (M.1, zm2 M.2.1 a k x, M.2.2), ?_, h6, zyup_ok hM h3⟩
                simp only [hM.1, hS, hk, ht, cond_true, if_pos hx]
              · cases h
            · cases h
          · cases h
    · cases h
theorem zyiald_ok (hT : zyT ρ τ σ) (hK : zyK ρ E) (h : zyiald τ E pc st A = some (pc', st', A')) (hs : zyRs ρ st w) (hM : zyMR ρ A M) : ∃ w' M', ziald σ pc w M = some (pc', w', M') ∧ zyRs ρ st' w' ∧ zyMR ρ A' M' := by
  unfold zyiald at h
  split at h
  · rename_i v a r
    obtain ⟨z, s, rfl, h3, h4⟩ := zyRs_cons hs
    obtain ⟨y, s, rfl, h5, h6⟩ := zyRs_cons h4
    have h5' : y = .ref a := h5
    subst h5'
    have h7 := zyres_ok hK h3
    split at h
    · rename_i i hv
      rw [hv] at h7
      have h7' : z = .int i := h7
      subst h7'
      unfold ziald
      dsimp only
      cases ha : Nat.blt a 1000 with
      | true =>
        rw [ha, cond_true] at h
        rw [cond_true, hM.1]
        cases hS : A.1[a]? with
        | none => rw [hS] at h; cases h
        | some q =>
          obtain ⟨kd, n, rs⟩ := q
          rw [hS] at h
          dsimp only at h ⊢
          cases hb : (kd == 10 && !zoutB i n) with
          | false => rw [hb, cond_false] at h; cases h
          | true =>
            rw [hb, cond_true] at h
            rw [cond_true]
            cases h
            exact ⟨.int (M.2.1 a i.toNatClampNeg) :: s, M, rfl, ⟨hM.2.1 a _, h6⟩, hM⟩
      | false =>
        rw [ha, cond_false] at h
        rw [cond_false, (hT (a - 1000)).1]
        cases hb : (Nat.blt a 1005 && !zoutB i (τ (a - 1000)).1) with
        | false => rw [hb, cond_false] at h; cases h
        | true =>
          rw [hb, cond_true] at h
          rw [cond_true]
          cases h
          exact ⟨.int ((σ (a - 1000)).2 i.toNatClampNeg) :: s, M, rfl, ⟨(hT (a - 1000)).2 _, h6⟩, hM⟩
    · cases h
  · cases h
theorem zylald_ok (hK : zyK ρ E) (h : zylald E pc st A = some (pc', st', A')) (hs : zyRs ρ st w) (hM : zyMR ρ A M) : ∃ w' M', zlald pc w M = some (pc', w', M') ∧ zyRs ρ st' w' ∧ zyMR ρ A' M' := by
  unfold zylald at h
  split at h
  · rename_i v a r
    obtain ⟨z, s, rfl, h3, h4⟩ := zyRs_cons hs
    obtain ⟨y, s, rfl, h5, h6⟩ := zyRs_cons h4
    have h5' : y = .ref a := h5
    subst h5'
    have h7 := zyres_ok hK h3
    split at h
    · rename_i i hv
      rw [hv] at h7
      have h7' : z = .int i := h7
      subst h7'
      unfold zlald
      dsimp only
      rw [hM.1]
      cases hS : A.1[a]? with
      | none => rw [hS] at h; cases h
      | some q =>
        obtain ⟨kd, n, rs⟩ := q
        rw [hS] at h
        dsimp only at h ⊢
        cases hb : (kd == 14 && !zoutB i n) with
        | false => rw [hb, cond_false] at h; cases h
        | true =>
          rw [hb, cond_true] at h
          rw [cond_true]
          cases hx : A.2.2.1 a i.toNatClampNeg with
          | none => rw [hx] at h; cases h
          | some x =>
            rw [hx] at h
            cases h
            refine ⟨.long (M.2.2.1 a i.toNatClampNeg) :: s, M, rfl, ⟨?_, h6⟩, hM⟩
            show Value.long _ = .long x
            rw [hM.2.2.1 _ _ _ hx]
    · cases h
  · cases h
theorem zyaald_ok (hK : zyK ρ E) (h : zyaald E pc st A = some (pc', st', A')) (hs : zyRs ρ st w) (hM : zyMR ρ A M) : ∃ w' M', zaald pc w M = some (pc', w', M') ∧ zyRs ρ st' w' ∧ zyMR ρ A' M' := by
  unfold zyaald at h
  split at h
  · rename_i v a r
    obtain ⟨z, s, rfl, h3, h4⟩ := zyRs_cons hs
    obtain ⟨y, s, rfl, h5, h6⟩ := zyRs_cons h4
    have h5' : y = .ref a := h5
    subst h5'
    have h7 := zyres_ok hK h3
    split at h
    · rename_i i hv
      rw [hv] at h7
      have h7' : z = .int i := h7
      subst h7'
      unfold zaald
      dsimp only
      rw [hM.1]
      cases hS : A.1[a]? with
      | none => rw [hS] at h; cases h
      | some q =>
        obtain ⟨kd, n, rs⟩ := q
        rw [hS] at h
        dsimp only at h ⊢
        cases hb : ((kd == 12 || kd == 13) && !zoutB i n) with
        | false => rw [hb, cond_false] at h; cases h
        | true =>
          rw [hb, cond_true] at h
          rw [cond_true]
          cases hx : zrv rs i.toNatClampNeg with
          | none => rw [hx] at h; cases h
          | some b =>
            rw [hx] at h
            cases h
            exact ⟨.ref b :: s, M, rfl, ⟨rfl, h6⟩, hM⟩
    · cases h
  · cases h
theorem zyiast_ok (hK : zyK ρ E) (h : zyiast E pc st A = some (pc', st', A')) (hs : zyRs ρ st w) (hM : zyMR ρ A M) : ∃ w' M', ziast pc w M = some (pc', w', M') ∧ zyRs ρ st' w' ∧ zyMR ρ A' M' := by
  unfold zyiast at h
  split at h
  · rename_i x v a r
    obtain ⟨z0, s, rfl, h1, h2⟩ := zyRs_cons hs
    obtain ⟨z, s, rfl, h3, h4⟩ := zyRs_cons h2
    obtain ⟨y, s, rfl, h5, h6⟩ := zyRs_cons h4
    have h5' : y = .ref a := h5
    subst h5'
    have h7 := zyres_ok hK h3
    split at h
    · rename_i i hv
      rw [hv] at h7
      have h7' : z = .int i := h7
      subst h7'
      cases hS : A.1[a]? with
      | none => rw [hS] at h; cases h
      | some q =>
        obtain ⟨kd, n, rs⟩ := q
        rw [hS] at h
        dsimp only at h
        cases hb : (kd == 10 && !zoutB i n && zyI x) with
        | false => rw [hb, cond_false] at h; cases h
        | true =>
          rw [hb, cond_true] at h
          cases h
          rw [Bool.and_eq_true] at hb
          obtain ⟨y, rfl⟩ := zyI_ok hb.2 h1
          refine ⟨s, (M.1, zm2 M.2.1 a i.toNatClampNeg y, M.2.2), ?_, h6, zyup_ok hM h1⟩
          unfold ziast
          simp only [hM.1, hS, hb.1, cond_true]
    · cases h
  · cases h
theorem zynar_ok {x : zyV} {y : Int32} (h : zyR ρ x (.int y)) : zyR ρ (zynar x) (.int (vp_nar .byte y)) := by
  cases x with
  | inl z =>
    have h' : Value.int y = z := h
    subst h'
    exact rfl
  | inr o => exact ⟨_, rfl⟩
theorem zybast_ok (hK : zyK ρ E) (h : zybast E pc st A = some (pc', st', A')) (hs : zyRs ρ st w) (hM : zyMR ρ A M) : ∃ w' M', zbast pc w M = some (pc', w', M') ∧ zyRs ρ st' w' ∧ zyMR ρ A' M' := by
  unfold zybast at h
  split at h
  · rename_i x v a r
    obtain ⟨z0, s, rfl, h1, h2⟩ := zyRs_cons hs
    obtain ⟨z, s, rfl, h3, h4⟩ := zyRs_cons h2
    obtain ⟨y, s, rfl, h5, h6⟩ := zyRs_cons h4
    have h5' : y = .ref a := h5
    subst h5'
    have h7 := zyres_ok hK h3
    split at h
    · rename_i i hv
      rw [hv] at h7
      have h7' : z = .int i := h7
      subst h7'
      cases hS : A.1[a]? with
      | none => rw [hS] at h; cases h
      | some q =>
        obtain ⟨kd, n, rs⟩ := q
        rw [hS] at h
        dsimp only at h
        cases hb : (kd == 11 && !zoutB i n && zyI x) with
        | false => rw [hb, cond_false] at h; cases h
        | true =>
          rw [hb, cond_true] at h
          cases h
          rw [Bool.and_eq_true] at hb
          obtain ⟨y, rfl⟩ := zyI_ok hb.2 h1
          refine ⟨s, (M.1, zm2 M.2.1 a i.toNatClampNeg (vp_nar .byte y), M.2.2), ?_, h6, zyup_ok hM (zynar_ok h1)⟩
          unfold zbast
          simp only [hM.1, hS, hb.1, cond_true]
    · cases h
  · cases h
theorem zylast_ok (hK : zyK ρ E) (h : zylast E pc st A = some (pc', st', A')) (hs : zyRs ρ st w) (hM : zyMR ρ A M) : ∃ w' M', zlast pc w M = some (pc', w', M') ∧ zyRs ρ st' w' ∧ zyMR ρ A' M' := by
  unfold zylast at h
  split at h
  · rename_i x v a r
    obtain ⟨z0, s, rfl, h1, h2⟩ := zyRs_cons hs
    obtain ⟨z, s, rfl, h3, h4⟩ := zyRs_cons h2
    obtain ⟨y, s, rfl, h5, h6⟩ := zyRs_cons h4
    have h1' : z0 = .long x := h1
    subst h1'
    have h5' : y = .ref a := h5
    subst h5'
    have h7 := zyres_ok hK h3
    split at h
    · rename_i i hv
      rw [hv] at h7
      have h7' : z = .int i := h7
      subst h7'
      cases hS : A.1[a]? with
      | none => rw [hS] at h; cases h
      | some q =>
        obtain ⟨kd, n, rs⟩ := q
        rw [hS] at h
        dsimp only at h
        cases hb : (kd == 14 && !zoutB i n) with
        | false => rw [hb, cond_false] at h; cases h
        | true =>
          rw [hb, cond_true] at h
          cases h
          refine ⟨s, (M.1, M.2.1, zl2 M.2.2.1 a i.toNatClampNeg x, M.2.2.2), ?_, h6, zyupL_ok hM⟩
          unfold zlast
          simp only [hM.1, hS, hb, cond_true]
    · cases h
  · cases h
theorem zyalen_ok (hT : zyT ρ τ σ) (h : zyalen τ pc st A = some (pc', st', A')) (hs : zyRs ρ st w) (hM : zyMR ρ A M) : ∃ w' M', zalen σ pc w M = some (pc', w', M') ∧ zyRs ρ st' w' ∧ zyMR ρ A' M' := by
  unfold zyalen at h
  split at h
  · rename_i a r
    obtain ⟨y, s, rfl, h5, h6⟩ := zyRs_cons hs
    have h5' : y = .ref a := h5
    subst h5'
    unfold zalen
    dsimp only
    cases ha : Nat.blt a 1000 with
    | true =>
      rw [ha, cond_true] at h
      rw [cond_true, hM.1]
      cases hS : A.1[a]? with
      | none => rw [hS] at h; cases h
      | some q =>
        obtain ⟨kd, n, rs⟩ := q
        rw [hS] at h
        dsimp only at h ⊢
        cases hb : (kd == 10 || kd == 11) with
        | false => rw [hb, cond_false] at h; cases h
        | true =>
          rw [hb, cond_true] at h
          rw [cond_true]
          cases h
          exact ⟨.int (Int32.ofNat n) :: s, M, rfl, ⟨rfl, h6⟩, hM⟩
    | false =>
      rw [ha, cond_false] at h
      rw [cond_false]
      cases hb : Nat.blt a 1005 with
      | false => rw [hb, cond_false] at h; cases h
      | true =>
        rw [hb, cond_true] at h
        rw [cond_true]
        cases h
        refine ⟨.int (Int32.ofNat (σ (a - 1000)).1) :: s, M, rfl, ⟨?_, h6⟩, hM⟩
        rw [(hT (a - 1000)).1]
        exact rfl
  · cases h
theorem zyacp_ok {idx : Nat} (h : zyacp c idx pc st A = some (pc', st', A')) (hs : zyRs ρ st w) (hM : zyMR ρ A M) : ∃ w' M', zacp c idx pc w M = some (pc', w', M') ∧ zyRs ρ st' w' ∧ zyMR ρ A' M' := by
  unfold zyacp at h
  split at h
  · rename_i x1 x2 hf
    split at h
    · rename_i n dp a1 sp a0 r
      obtain ⟨z1, s, rfl, h1, q1⟩ := zyRs_cons hs
      obtain ⟨z2, s, rfl, h2, q2⟩ := zyRs_cons q1
      obtain ⟨z3, s, rfl, h3, q3⟩ := zyRs_cons q2
      obtain ⟨z4, s, rfl, h4, q4⟩ := zyRs_cons q3
      obtain ⟨z5, s, rfl, h5, q5⟩ := zyRs_cons q4
      have h1' : z1 = .int n := h1
      have h2' : z2 = .int dp := h2
      have h3' : z3 = .ref a1 := h3
      have h4' : z4 = .int sp := h4
      have h5' : z5 = .ref a0 := h5
      subst h1' h2' h3' h4' h5'
      split at h
      · rename_i k0 n0 y0 k1 n1 y1 e0 e1
        rw [cond_eq_ite] at h
        split at h
        · rename_i hb
          have hsum : ((s.map fun v => v.category).sum) = zysum r := zysum_ok q5
          cases h
          refine ⟨s, (M.1, (fun i => if i = a1 then va_cpy (M.2.1 a0) (M.2.1 a1) sp.toNatClampNeg dp.toNatClampNeg n.toNatClampNeg else M.2.1 i), M.2.2), ?_, q5, hM.1, ?_, hM.2.2⟩
          · unfold zacp
            simp only [hf, hM.1, e0, e1, hsum]
            rw [hb, cond_true]
          · intro i l
            show zyR ρ ((bif Nat.beq i a1 then va_cpy (A.2.1 a0) (A.2.1 a1) sp.toNatClampNeg dp.toNatClampNeg n.toNatClampNeg else A.2.1 i) l) (.int ((if i = a1 then va_cpy (M.2.1 a0) (M.2.1 a1) sp.toNatClampNeg dp.toNatClampNeg n.toNatClampNeg else M.2.1 i) l))
            by_cases hi : i = a1
            · subst hi
              rw [if_pos rfl, Nat.beq_refl, cond_true]
              unfold va_cpy
              by_cases hl : dp.toNatClampNeg ≤ l ∧ l < dp.toNatClampNeg + n.toNatClampNeg
              · rw [if_pos hl, if_pos hl]
                exact hM.2.1 _ _
              · rw [if_neg hl, if_neg hl]
                exact hM.2.1 _ _
            · have : Nat.beq i a1 = false := by
                cases hb : Nat.beq i a1 with
                | false => rfl
                | true => exact absurd (Nat.eq_of_beq_eq_true hb) hi
              rw [if_neg hi, this, cond_false]
              exact hM.2.1 i l
        · cases h
      · cases h
    · cases h
  · cases h
theorem zyS_ok {ini : Bool} {i : Instr} {lw : zLv} (hT : zyT ρ τ σ) (hK : zyK ρ E) (h : zyS τ E c i pc st A = some (pc', st', A')) (hs : zyRs ρ st w) (hM : zyMR ρ A M) : zP c i pc lw w = none ∧ ∃ w' M', zS σ c ini i pc w M = some (pc', w', M') ∧ zyRs ρ st' w' ∧ zyMR ρ A' M' := by
  cases i
  case getfield idx => exact ⟨rfl, zygetf_ok h hs hM⟩
  case putfield idx => exact ⟨rfl, zyputf_ok h hs hM⟩
  case iaload => exact ⟨rfl, zyiald_ok hT hK h hs hM⟩
  case laload => exact ⟨rfl, zylald_ok hK h hs hM⟩
  case aaload => exact ⟨rfl, zyaald_ok hK h hs hM⟩
  case iastore => exact ⟨rfl, zyiast_ok hK h hs hM⟩
  case bastore => exact ⟨rfl, zybast_ok hK h hs hM⟩
  case lastore => exact ⟨rfl, zylast_ok hK h hs hM⟩
  case arraylength => exact ⟨rfl, zyalen_ok hT h hs hM⟩
  case getstatic idx =>
    refine ⟨rfl, ?_⟩
    simp only [zyS, zygets] at h
    simp only [zS, zgets]
    split at h
    · rename_i sid x1 x2 hf
      rw [hf]
      cases h
      exact ⟨.ref (1000 + sid) :: w, M, rfl, ⟨rfl, hs⟩, hM⟩
    · cases h
  case invokestatic idx => exact ⟨rfl, zyacp_ok h hs hM⟩
  all_goals (simp only [zyS] at h; cases h)
theorem zyret_ok {j : Nat} {i : Instr} {lw : zLv} {ini : Bool} {v : Option zyV} (h : zyret j i st = some v) (hs : zyRs ρ st w) : zP c i pc lw w = none ∧ zS σ c ini i pc w M = none ∧ ∃ x, zret j i w = some x ∧ zyOR ρ (.inl v) (.inl x) := by
  unfold zyret at h
  cases hj : zent j with
  | none => rw [hj] at h; cases h
  | some q =>
    rw [hj] at h
    dsimp only at h
    cases i
    case ireturn =>
      dsimp only at h
      refine ⟨rfl, rfl, ?_⟩
      cases st with
      | nil => cases h
      | cons a r =>
        cases r with
        | cons b r => cases h
        | nil =>
          obtain ⟨z, s, rfl, h3, h4⟩ := zyRs_cons hs
          obtain rfl := zyRs_nil h4
          dsimp only at h
          split at h
          · rename_i hq
            cases hi : zyI a with
            | false => rw [hi, cond_false] at h; cases h
            | true =>
              rw [hi, cond_true] at h
              cases h
              obtain ⟨x, rfl⟩ := zyI_ok hi h3
              refine ⟨some (.int x), ?_, h3⟩
              unfold zret
              simp only [hj, hq]
          · rename_i hq
            split at h
            · rename_i x
              have h3' : z = .int x := h3
              subst h3'
              split at h
              · rename_i hx
                cases h
                refine ⟨some (.int x), ?_, h3⟩
                unfold zret
                simp only [hj, hq, if_pos hx]
              · cases h
            · cases h
          · cases h
    case areturn =>
      dsimp only at h
      refine ⟨rfl, rfl, ?_⟩
      split at h
      · rename_i a
        obtain ⟨z, s, rfl, h3, h4⟩ := zyRs_cons hs
        obtain rfl := zyRs_nil h4
        have h3' : z = .ref a := h3
        subst h3'
        split at h
        · rename_i nm hq
          cases h
          refine ⟨some (.ref a), ?_, rfl⟩
          unfold zret
          simp only [hj, hq]
        · cases h
      · cases h
    case return_ =>
      dsimp only at h
      refine ⟨rfl, rfl, ?_⟩
      split at h
      · obtain rfl := zyRs_nil hs
        split at h
        · rename_i hq
          cases h
          refine ⟨none, ?_, trivial⟩
          unfold zret
          simp only [hj, hq]
        · cases h
      · cases h
    all_goals (dsimp only at h; cases h)
theorem zysp_ok {n j : Nat} {as r : List zyV} (h : zysp n st = some (as, r)) (hs : zyRs ρ st w) : ∃ as' r', zsp j n w = some (j, as', r') ∧ zyRs ρ as as' ∧ zyRs ρ r r' := by
  unfold zysp at h
  rw [cond_eq_ite] at h
  split at h
  · rename_i hb
    cases h
    rw [Bool.and_eq_true, Bool.and_eq_true] at hb
    refine ⟨(w.take n).reverse, w.drop n, ?_, zyRs_rev (zyRs_take n hs), zyRs_drop n hs⟩
    unfold zsp
    rw [zyRs_len hs, zysum_ok (zyRs_drop n hs), hb.1.1, hb.1.2, zyall_ok (zyRs_take n hs) hb.2]
    rfl
  · cases h
theorem zret_none {j : Nat} {i : Instr} {w : List Value} (h1 : i ≠ .ireturn) (h2 : i ≠ .areturn) (h3 : i ≠ .return_) : zret j i w = none := by
  unfold zret
  cases zent j with
  | none => rfl
  | some q =>
    cases i
    case ireturn => exact absurd rfl h1
    case areturn => exact absurd rfl h2
    case return_ => exact absurd rfl h3
    all_goals rfl
theorem zycall_ok {i : Instr} {lw : zLv} {ini : Bool} {j j' : Nat} {as r : List zyV} (h : zycall c i st A = some (j', as, r)) (hs : zyRs ρ st w) (hM : zyMR ρ A M) : zP c i pc lw w = none ∧ zS σ c ini i pc w M = none ∧ zret j i w = none ∧ ∃ as' r', zcall c i w M = some (j', as', r') ∧ zyRs ρ as as' ∧ zyRs ρ r r' := by
  cases i
  case invokevirtual idx =>
    refine ⟨rfl, rfl, zret_none (by intro e; cases e) (by intro e; cases e) (by intro e; cases e), ?_⟩
    simp only [zycall] at h
    split at h
    · rename_i j0 x1 hf
      split at h
      · rename_i b as0 r0 hsp
        obtain ⟨as', r', h1, h2, h3⟩ := zysp_ok (j := j0) hsp hs
        obtain ⟨z, s, rfl, h4, h5⟩ := zyRs_cons h2
        have h4' : z = .ref b := h4
        subst h4'
        split at h
        · rename_i kd y1 y2 hS
          cases hb : (kd == j0 / 200) with
          | false => rw [hb, cond_false] at h; cases h
          | true =>
            rw [hb, cond_true] at h
            cases h
            refine ⟨.ref b :: s, r', ?_, h2, h3⟩
            simp only [zcall, hf, h1, hM.1, hS, hb, cond_true]
        · cases h
      · cases h
    · cases h
  case invokestatic idx =>
    simp only [zycall] at h
    split at h
    · rename_i j0 x1 hf
      cases hb : Nat.blt j0 2400 with
      | false => rw [hb, cond_false] at h; cases h
      | true =>
        rw [hb, cond_true] at h
        split at h
        · rename_i as0 r0 hsp
          obtain ⟨as', r', h1, h2, h3⟩ := zysp_ok (j := j0) hsp hs
          cases h
          refine ⟨rfl, ?_, zret_none (by intro e; cases e) (by intro e; cases e) (by intro e; cases e), as', r', ?_, h2, h3⟩
          · simp only [zS, zacp, hf]
          · simp only [zcall, hf, hb, cond_true, h1]
        · cases h
    · cases h
  case invokespecial idx =>
    simp only [zycall] at h
    split at h
    · rename_i j0 x1 hf
      split at h
      · rename_i b as0 r0 hsp
        obtain ⟨as', r', h1, h2, h3⟩ := zysp_ok (j := j0) hsp hs
        obtain ⟨z, s, rfl, h4, h5⟩ := zyRs_cons h2
        have h4' : z = .ref b := h4
        subst h4'
        cases h
        refine ⟨rfl, ?_, zret_none (by intro e; cases e) (by intro e; cases e) (by intro e; cases e), .ref b :: s, r', ?_, h2, h3⟩
        · simp only [zS, zoin, hf]
        · simp only [zcall, hf, h1]
      · cases h
    · cases h
  all_goals (simp only [zycall] at h; cases h)
theorem zymath_ok {i : Instr} {lw : zLv} {ini : Bool} {j : Nat} (hK : zyK ρ E) (h : zymath E c i pc st = some (pc', st')) (hs : zyRs ρ st w) : zP c i pc lw w = none ∧ zS σ c ini i pc w M = none ∧ zret j i w = none ∧ zcall c i w M = none ∧ ∃ w', zmath c i pc w = some (pc', w') ∧ zyRs ρ st' w' := by
  cases i
  case invokestatic idx =>
    simp only [zymath] at h
    split at h
    · rename_i x1 hf
      split at h
      · rename_i y x r hu
        obtain ⟨s, rfl, h3, h4⟩ := zyun_ok hK hu hs
        cases hb : Nat.ble (zysum r) 8 with
        | false => rw [hb, cond_false] at h; cases h
        | true =>
          rw [hb, cond_true] at h
          cases h
          refine ⟨rfl, ?_, zret_none (by intro e; cases e) (by intro e; cases e) (by intro e; cases e), ?_, .int (if x < y then y else x) :: s, ?_, rfl, h3⟩
          · simp only [zS, zacp, hf]
          · simp only [zcall, hf] <;> rfl
          · simp only [zmath, hf, List.cons_append, List.nil_append, zysum_ok h3, hb, cond_true]
      · cases h
    · rename_i x1 hf
      split at h
      · rename_i y x r hu
        obtain ⟨s, rfl, h3, h4⟩ := zyun_ok hK hu hs
        cases hb : Nat.ble (zysum r) 8 with
        | false => rw [hb, cond_false] at h; cases h
        | true =>
          rw [hb, cond_true] at h
          cases h
          refine ⟨rfl, ?_, zret_none (by intro e; cases e) (by intro e; cases e) (by intro e; cases e), ?_, .int (if y < x then y else x) :: s, ?_, rfl, h3⟩
          · simp only [zS, zacp, hf]
          · simp only [zcall, hf] <;> rfl
          · simp only [zmath, hf, List.cons_append, List.nil_append, zysum_ok h3, hb, cond_true]
      · cases h
    · cases h
  all_goals (simp only [zymath] at h; cases h)
end ZYC
