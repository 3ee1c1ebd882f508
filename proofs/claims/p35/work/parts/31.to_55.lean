/-! 31.mrules 38.pre 39.copy 50.walk 51.ref 52.ref 53.ref 54.pure 55.ref -/
section
/-! memory steps over an explicit memory -/
section ZMR
variable {σ : Nat → Nat × (Nat → Int32)} {d j pc : Nat} {lv : zLv} {r : List Value} {S : List (Nat × Nat × List Nat)} {m : Nat → Nat → Int32} {lf : Nat → Nat → Int64} {z : Bool × Nat × Nat} {P : zO → zMem → Prop}
theorem zmGI {idx ci k pl a n t : Nat} {rs : List Nat} {f : Bool} (hf : zfe j pc = some (.getfield idx, 3)) (hl : (zfp (j / 200)).lookup idx = some (ci, k, pl)) (hS : S[a]? = some (ci, n, rs)) (ht : (zft ci)[k]? = some (t, f)) (h2 : t ≠ 2) (kk : zW σ d j (pc + 3) lv (.int (m a k) :: r) (S, m, lf, z) P) : zW σ d j pc lv (.ref a :: r) (S, m, lf, z) P := by
  refine zwS hf rfl ?_ kk
  simp only [zS, zgetf, hl, hS, beq_self_eq_true, cond_true, ht]
  split
  · rename_i h; cases h; exact absurd rfl h2
  · rfl
  · rename_i h; cases h
theorem zmGR {idx ci k pl a n b : Nat} {rs : List Nat} {f : Bool} (hf : zfe j pc = some (.getfield idx, 3)) (hl : (zfp (j / 200)).lookup idx = some (ci, k, pl)) (hS : S[a]? = some (ci, n, rs)) (ht : (zft ci)[k]? = some (2, f)) (hb : zrv rs k = some b) (kk : zW σ d j (pc + 3) lv (.ref b :: r) (S, m, lf, z) P) : zW σ d j pc lv (.ref a :: r) (S, m, lf, z) P := by
  refine zwS hf rfl ?_ kk
  simp only [zS, zgetf, hl, hS, beq_self_eq_true, cond_true, ht, hb]
theorem zmPI {idx ci k pl a n : Nat} {rs : List Nat} {x : Int32} (hf : zfe j pc = some (.putfield idx, 3)) (hl : (zfp (j / 200)).lookup idx = some (ci, k, pl)) (hS : S[a]? = some (ci, n, rs)) (ht : (zft ci)[k]? = some (0, false)) (kk : zW σ d j (pc + 3) lv r (S, zm2 m a k x, lf, z) P) : zW σ d j pc lv (.int x :: .ref a :: r) (S, m, lf, z) P := by
  refine zwS hf rfl ?_ kk
  simp only [zS, zputf, hl, hS, beq_self_eq_true, cond_true, ht]
theorem zmPB {idx ci k pl a n : Nat} {rs : List Nat} {x : Int32} (hf : zfe j pc = some (.putfield idx, 3)) (hl : (zfp (j / 200)).lookup idx = some (ci, k, pl)) (hS : S[a]? = some (ci, n, rs)) (ht : (zft ci)[k]? = some (1, false)) (hx : x = 0 ∨ x = 1) (kk : zW σ d j (pc + 3) lv r (S, zm2 m a k x, lf, z) P) : zW σ d j pc lv (.int x :: .ref a :: r) (S, m, lf, z) P := by
  refine zwS hf rfl ?_ kk
  simp only [zS, zputf, hl, hS, beq_self_eq_true, cond_true, ht, if_pos hx]
theorem zmAL {a n k : Nat} {rs : List Nat} {i : Int32} (hf : zfe j pc = some (.iaload, 1)) (ha : Nat.blt a 1000 = true) (hS : S[a]? = some (10, n, rs)) (hi : zoutB i n = false) (hk : i.toNatClampNeg = k) (kk : zW σ d j (pc + 1) lv (.int (m a k) :: r) (S, m, lf, z) P) : zW σ d j pc lv (.int i :: .ref a :: r) (S, m, lf, z) P := by
  subst hk
  refine zwS hf rfl ?_ kk
  simp only [zS, ziald, ha, cond_true, hS, beq_self_eq_true, hi, Bool.not_false, Bool.and_self]
theorem zmAS {a n k : Nat} {rs : List Nat} {i x : Int32} (hf : zfe j pc = some (.iastore, 1)) (hS : S[a]? = some (10, n, rs)) (hi : zoutB i n = false) (hk : i.toNatClampNeg = k) (kk : zW σ d j (pc + 1) lv r (S, zm2 m a k x, lf, z) P) : zW σ d j pc lv (.int x :: .int i :: .ref a :: r) (S, m, lf, z) P := by
  subst hk
  refine zwS hf rfl ?_ kk
  simp only [zS, ziast, hS, beq_self_eq_true, hi, Bool.not_false, Bool.and_self, cond_true]
theorem zmRL {a n b : Nat} {kd : Nat} {rs : List Nat} {i : Int32} (hf : zfe j pc = some (.aaload, 1)) (hS : S[a]? = some (kd, n, rs)) (hkd : (kd == 12 || kd == 13) = true) (hi : zoutB i n = false) (hb : zrv rs i.toNatClampNeg = some b) (kk : zW σ d j (pc + 1) lv (.ref b :: r) (S, m, lf, z) P) : zW σ d j pc lv (.int i :: .ref a :: r) (S, m, lf, z) P := by
  refine zwS hf rfl ?_ kk
  simp only [zS, zaald, hS, hkd, hi, Bool.not_false, Bool.and_self, cond_true, hb]
end ZMR
end
section
/-! from the law's entry to its loop -/
theorem zrun_dep {σ : Nat → Nat × (Nat → Int32)} : ∀ (n d j pc : Nat) (lv : zLv) (st : List Value) (M : zMem) (r : zO × zMem), zrun σ n d j pc lv st M = some r → zrun σ n (d + 1) j pc lv st M = some r := by
  intro n
  induction n with
  | zero => intro d j pc lv st M r h; cases h
  | succ n ih =>
    intro d j pc lv st M r h
    rw [zrun] at h ⊢
    cases hf : zfe j pc with
    | none => simp only [hf] at h; cases h
    | some x =>
      obtain ⟨i, len⟩ := x
      simp only [hf] at h ⊢
      cases hp : zP (j / 200) i pc lv st with
      | some y =>
        obtain ⟨a, b, c⟩ := y
        simp only [hp] at h ⊢
        exact ih _ _ _ _ _ _ _ h
      | none =>
        simp only [hp] at h ⊢
        cases hs : zS σ (j / 200) (zini j) i pc st M with
        | some y =>
          obtain ⟨a, b, c⟩ := y
          simp only [hs] at h ⊢
          exact ih _ _ _ _ _ _ _ h
        | none =>
          simp only [hs] at h ⊢
          cases hr : zret j i st with
          | some v => simp only [hr] at h ⊢; exact h
          | none =>
            simp only [hr] at h ⊢
            cases ht : zthr j pc with
            | some e0 => simp only [ht] at h ⊢; exact h
            | none =>
              simp only [ht] at h ⊢
              cases hc : zcall (j / 200) i st M with
              | none =>
                simp only [hc] at h ⊢
                cases hm : zmath (j / 200) i pc st with
                | none => simp only [hm] at h; cases h
                | some y =>
                  obtain ⟨a, b⟩ := y
                  simp only [hm] at h ⊢
                  exact ih _ _ _ _ _ _ _ h
              | some y =>
                obtain ⟨j', as, rest⟩ := y
                simp only [hc] at h ⊢
                cases d with
                | zero => simp only at h; cases h
                | succ d =>
                  simp only at h
                  cases hz : zrun σ n d j' 0 (zarg j' as) [] M with
                  | none => simp only [hz] at h; cases h
                  | some z =>
                    rw [ih _ _ _ _ _ _ _ hz]
                    obtain ⟨o, M1⟩ := z
                    simp only [hz] at h
                    cases o with
                    | inl v =>
                      simp only at h ⊢
                      exact ih _ _ _ _ _ _ _ h
                    | inr e0 =>
                      simp only at h ⊢
                      exact h
theorem zCal_dep {σ : Nat → Nat × (Nat → Int32)} {d j : Nat} {as : List Value} {M M' : zMem} {o : zO} (h : zCal σ d j as M o M') : ∀ k, zCal σ (d + k) j as M o M' := by
  intro k
  induction k with
  | zero => exact h
  | succ k ih =>
    obtain ⟨n, hn⟩ := ih
    exact ⟨n, zrun_dep _ _ _ _ _ _ _ _ hn⟩
noncomputable def zlw0 : zLv := [some (.ref 1000), some (.ref 0), some (.ref 137), some (.ref 146), some (.int 0), none, none]
theorem znew_1 {σ : Nat → Nat × (Nat → Int32)} : zS σ 10 false (.new 8) 0 [] zMe = some (3, [.ref 0], zA1) := rfl
theorem znew_2 {σ : Nat → Nat × (Nat → Int32)} : zS σ 10 false (.new 96) 8 [] zM1 = some (11, [.ref 137], zA2) := by
  have h : (zcp 10).lookup 96 = some (9, 1291) := rfl
  simp only [zS, znew, h, zM1_len.1, zM1_len.2, Bool.true_and]
  rfl
theorem znew_3 {σ : Nat → Nat × (Nat → Int32)} : zS σ 10 false (.newarray .long) 17 [.int (Int32.ofInt 1)] zM2 = some (19, [.ref 146], zM3) := by
  have h : (Int32.ofInt 1).toNatClampNeg = 1 := by decide
  have h2 : decide (¬ Int32.ofInt 1 < 0) = true := by decide
  simp only [zS, znewa, h, h2, zM2_len.1, zM2_len.2, Bool.true_and]
  rfl
theorem zlaw_pre {σ : Nat → Nat × (Nat → Int32)} {o : zO} {M' : zMem} (h : zEv σ 20 2024 23 zlw0 [] zM3 o M') : zEv σ 20 2024 0 (zarg 2024 [.ref 1000]) [] zMe o M' := by
  have c1 : zCal σ 19 1600 [.ref 0] zA1 (.inl none) zM1 := zCal_dep (d := 10) ⟨3000, zrun0_up σ _ _ _ _ _ _ _ _ _ zR1_eq⟩ 9
  have c2 : zCal σ 19 1805 [.ref 137] zA2 (.inl none) zM2 := zCal_dep (d := 10) ⟨3000, zrun0_up σ _ _ _ _ _ _ _ _ _ zR2_eq⟩ 9
  show zEv σ 20 2024 0 [some (.ref 1000), none, none, none, none, none, none] [] zMe o M'
  refine zeS (i := .new 8) (len := 3) rfl rfl znew_1 ?_
  refine zeP (i := .dup) (len := 1) rfl rfl ?_
  refine zeC (i := .invokespecial 95) (len := 3) (j' := 1600) (as := [.ref 0]) (rest := [.ref 0]) rfl rfl rfl rfl rfl rfl c1 ?_
  show zEv σ 20 2024 7 [some (.ref 1000), none, none, none, none, none, none] [.ref 0] zM1 o M'
  refine zeP (i := .astore_n 1) (len := 1) rfl rfl ?_
  refine zeS (i := .new 96) (len := 3) rfl rfl znew_2 ?_
  refine zeP (i := .dup) (len := 1) rfl rfl ?_
  refine zeC (i := .invokespecial 98) (len := 3) (j' := 1805) (as := [.ref 137]) (rest := [.ref 137]) rfl rfl rfl rfl rfl rfl c2 ?_
  show zEv σ 20 2024 15 [some (.ref 1000), some (.ref 0), none, none, none, none, none] [.ref 137] zM2 o M'
  refine zeP (i := .astore_n 2) (len := 1) rfl rfl ?_
  refine zeP (i := .iconst 1) (len := 1) rfl rfl ?_
  refine zeS (i := .newarray .long) (len := 2) rfl rfl znew_3 ?_
  refine zeP (i := .astore_n 3) (len := 1) rfl rfl ?_
  refine zeP (i := .iconst 0) (len := 1) rfl rfl ?_
  refine zeP (i := .istore 4) (len := 2) rfl rfl ?_
  exact h
end
section
/-! the reference's copies of a row -/
noncomputable def zcpm (m : Nat → Nat → Int32) (a b t : Nat) : Nat → Nat → Int32 := fun i k => if i = b ∧ k < t then m a k else m i k
theorem zcpm_step (m : Nat → Nat → Int32) {a b : Nat} (hab : a ≠ b) (t : Nat) : zm2 (zcpm m a b t) b t (zcpm m a b t a t) = zcpm m a b (t + 1) := by
  funext i k
  unfold zm2 zcpm upd
  have e1 : (if a = b ∧ t < t then m a t else m a t) = m a t := by split <;> rfl
  rw [e1]
  by_cases hi : i = b
  · subst hi
    rw [if_pos rfl]
    try dsimp only
    by_cases hk : k = t
    · subst hk
      rw [if_pos rfl, if_pos ⟨rfl, Nat.lt_succ_self _⟩]
    · rw [if_neg hk]
      by_cases hl : k < t
      · rw [if_pos ⟨rfl, hl⟩, if_pos ⟨rfl, Nat.lt_succ_of_lt hl⟩]
      · rw [if_neg (fun q => hl q.2), if_neg (fun q => by omega)]
  · rw [if_neg hi]
    try dsimp only
    rw [if_neg (fun q => hi q.1), if_neg (fun q => hi q.1)]
theorem z788 : (Int16.ofInt 788).toInt32.toInt = 788 := by decide +kernel
theorem zi31 {t : Nat} (h : t < 789) : t < 2 ^ 31 := Nat.lt_trans h (by decide)
theorem zcpc {t : Nat} (h : t < 788) : zc2 .ge (Int32.ofNat t) (Int16.ofInt 788).toInt32 = false := by
  unfold zc2
  apply decide_eq_false
  rw [Int32.le_iff_toInt_le, z788, Int32.toInt_ofNat_of_lt (zi31 (by omega))]
  omega
theorem zcpo {t : Nat} (h : t < 788) : zoutB (Int32.ofNat t) 788 = false := by
  unfold zoutB
  rw [Bool.or_eq_false_iff]
  constructor
  · apply decide_eq_false
    rw [Int32.lt_iff_toInt_lt, Int32.toInt_zero, Int32.toInt_ofNat_of_lt (zi31 (by omega))]
    omega
  · apply decide_eq_false
    rw [Int32.toNatClampNeg_ofNat_of_lt (zi31 (by omega))]
    omega
theorem zcpi (t : Nat) (_ : t < 788) : Int32.ofNat t + Int32.ofInt 1 = Int32.ofNat (t + 1) := by
  rw [Int32.ofNat_add]
  rfl
theorem zcp_loop {σ : Nat → Nat × (Nat → Int32)} {d a b : Nat} {S : List (Nat × Nat × List Nat)} {m : Nat → Nat → Int32} {y : (Nat → Nat → Int64) × Bool × Nat × Nat} {ra rb : List Nat} (hab : a ≠ b) (ha : Nat.blt a 1000 = true) (hA : S[a]? = some (10, 788, ra)) (hB : S[b]? = some (10, 788, rb)) : ∀ (n t : Nat), t + n = 788 → zEv σ d 1806 2 [some (.ref a), some (.ref b), some (.int (Int32.ofNat t))] [] (S, zcpm m a b t, y) (.inl none) (S, zcpm m a b 788, y) := by
  intro n
  induction n with
  | zero =>
    intro t ht
    have ht' : t = 788 := by omega
    subst ht'
    refine zeP (i := .iload_n 2) (len := 1) rfl rfl ?_
    refine zeP (i := .sipush 788) (len := 3) rfl rfl ?_
    refine zeP (i := .if_icmp .ge 15) (len := 3) (pc' := 21) (lv' := [some (.ref a), some (.ref b), some (.int (Int32.ofNat 788))]) (st' := []) rfl ?_ ?_
    · have h1 : zc2 .ge (Int32.ofNat 788) (Int16.ofInt 788).toInt32 = true := by decide +kernel
      show zbr (zc2 .ge (Int32.ofNat 788) (Int16.ofInt 788).toInt32) 6 15 [some (.ref a), some (.ref b), some (.int (Int32.ofNat 788))] [] = _
      unfold zbr
      rw [h1]
      rfl
    · exact zeR (i := .return_) (len := 1) rfl rfl rfl rfl
  | succ n ih =>
    intro t ht
    have hlt : t < 788 := by omega
    have hc := zcpc hlt
    have ho := zcpo hlt
    have hk : (Int32.ofNat t).toNatClampNeg = t := Int32.toNatClampNeg_ofNat_of_lt (zi31 (by omega))
    refine zeP (i := .iload_n 2) (len := 1) rfl rfl ?_
    refine zeP (i := .sipush 788) (len := 3) rfl rfl ?_
    refine zeP (i := .if_icmp .ge 15) (len := 3) (pc' := 9) (lv' := [some (.ref a), some (.ref b), some (.int (Int32.ofNat t))]) (st' := []) rfl ?_ ?_
    · show zbr (zc2 .ge (Int32.ofNat t) (Int16.ofInt 788).toInt32) 6 15 [some (.ref a), some (.ref b), some (.int (Int32.ofNat t))] [] = _
      unfold zbr
      rw [hc]
      rfl
    refine zeP (i := .aload_n 1) (len := 1) rfl rfl ?_
    refine zeP (i := .iload_n 2) (len := 1) rfl rfl ?_
    refine zeP (i := .aload_n 0) (len := 1) rfl rfl ?_
    refine zeP (i := .iload_n 2) (len := 1) rfl rfl ?_
    refine zeS (i := .iaload) (len := 1) (pc' := 14) (st' := [.int (zcpm m a b t a t), .int (Int32.ofNat t), .ref b]) (M1 := (S, zcpm m a b t, y)) rfl rfl ?_ ?_
    · simp only [zS, ziald, ha, cond_true, hA, beq_self_eq_true, ho, Bool.not_false, Bool.and_self, hk]
    refine zeS (i := .iastore) (len := 1) (pc' := 15) (st' := []) (M1 := (S, zcpm m a b (t + 1), y)) rfl rfl ?_ ?_
    · simp only [zS, ziast, hB, beq_self_eq_true, ho, Bool.not_false, Bool.and_self, cond_true, hk, zcpm_step m hab t]
    refine zeP (i := .iinc 2 1) (len := 3) (pc' := 18) (lv' := [some (.ref a), some (.ref b), some (.int (Int32.ofNat (t + 1)))]) (st' := []) rfl ?_ ?_
    · rw [← zcpi t hlt]
      rfl
    refine zeP (i := .goto (-16)) (len := 3) rfl rfl ?_
    exact ih (t + 1) (by omega)
theorem zcp_all {σ : Nat → Nat × (Nat → Int32)} {d a b : Nat} {S : List (Nat × Nat × List Nat)} {m : Nat → Nat → Int32} {y : (Nat → Nat → Int64) × Bool × Nat × Nat} {ra rb : List Nat} (hab : a ≠ b) (ha : Nat.blt a 1000 = true) (hA : S[a]? = some (10, 788, ra)) (hB : S[b]? = some (10, 788, rb)) : zCal σ d 1806 [.ref a, .ref b] (S, m, y) (.inl none) (S, zcpm m a b 788, y) := by
  have h0 : zcpm m a b 0 = m := by
    funext i k
    unfold zcpm
    rw [if_neg (fun q => Nat.not_lt_zero _ q.2)]
  have h1 := zcp_loop (σ := σ) (d := d) (m := m) (y := y) hab ha hA hB 788 0 rfl
  rw [h0] at h1
  show zEv σ d 1806 0 [some (.ref a), some (.ref b), none] [] _ _ _
  refine zeP (i := .iconst 0) (len := 1) rfl rfl ?_
  refine zeP (i := .istore_n 2) (len := 1) (pc' := 2) (lv' := [some (.ref a), some (.ref b), some (.int (Int32.ofNat 0))]) (st' := []) rfl ?_ h1
  rfl
end
section
/-! rules for walks that compute: nat numbers as ints, the memory behind the constructors -/
section ZWK
variable {σ : Nat → Nat × (Nat → Int32)} {d j pc : Nat} {lv : zLv} {r st : List Value} {M : zMem} {m : Nat → Nat → Int32} {y : (Nat → Nat → Int64) × Bool × Nat × Nat} {o : zO} {M' : zMem}
theorem zeKn {i : Instr} {len pc' c : Nat} {w : Int32} (hf : zfe j pc = some (i, len)) (hp : zP (j / 200) i pc lv st = some (pc', lv, .int w :: st)) (hv : w = Int32.ofNat c) (k : zEv σ d j pc' lv (.int (Int32.ofNat c) :: st) M o M') : zEv σ d j pc lv st M o M' := by
  subst hv
  exact zeP hf hp k
theorem zeK {i : Instr} {len pc' : Nat} {v w : Int32} (hf : zfe j pc = some (i, len)) (hp : zP (j / 200) i pc lv st = some (pc', lv, .int w :: st)) (hv : w = v) (k : zEv σ d j pc' lv (.int v :: st) M o M') : zEv σ d j pc lv st M o M' := by
  subst hv
  exact zeP hf hp k
theorem zeAdd {a b : Nat} (hf : zfe j pc = some (.iadd, 1)) (k : zEv σ d j (pc + 1) lv (.int (Int32.ofNat (a + b)) :: r) M o M') : zEv σ d j pc lv (.int (Int32.ofNat b) :: .int (Int32.ofNat a) :: r) M o M' := by
  rw [Int32.ofNat_add] at k
  exact zeP hf rfl k
theorem zeMul {a b : Nat} (hf : zfe j pc = some (.imul, 1)) (k : zEv σ d j (pc + 1) lv (.int (Int32.ofNat (a * b)) :: r) M o M') : zEv σ d j pc lv (.int (Int32.ofNat b) :: .int (Int32.ofNat a) :: r) M o M' := by
  rw [Int32.ofNat_mul] at k
  exact zeP hf rfl k
theorem zeInc {a k : Nat} (hf : zfe j pc = some (.iinc k 1, 3)) (hl : lv[k]? = some (some (.int (Int32.ofNat a)))) (kk : zEv σ d j (pc + 3) (lv.set k (some (.int (Int32.ofNat (a + 1))))) r M o M') : zEv σ d j pc lv r M o M' := by
  rw [Int32.ofNat_add] at kk
  refine zeP hf ?_ kk
  simp only [zP, hl]
  rfl
theorem zeB1 {k : ClassFile.Cond} {off : Int} {t : Nat} {x : Int32} (hf : zfe j pc = some (.ifCond k off, 3)) (ht : ztg pc off = some t) (kt : zc1 k x = true → zEv σ d j t lv st M o M') (kf : zc1 k x = false → zEv σ d j (pc + 3) lv st M o M') : zEv σ d j pc lv (.int x :: st) M o M' := by
  cases hb : zc1 k x with
  | true => exact zeP (pc' := t) hf (by simp only [zP, zbr, ht, hb, Option.map_some, cond_true]) (kt hb)
  | false => exact zeP (pc' := pc + 3) hf (by simp only [zP, zbr, ht, hb, Option.map_some, cond_false]) (kf hb)
theorem zeB2 {k : ClassFile.Cond} {off : Int} {t : Nat} {x y : Int32} (hf : zfe j pc = some (.if_icmp k off, 3)) (ht : ztg pc off = some t) (kt : zc2 k x y = true → zEv σ d j t lv st M o M') (kf : zc2 k x y = false → zEv σ d j (pc + 3) lv st M o M') : zEv σ d j pc lv (.int y :: .int x :: st) M o M' := by
  cases hb : zc2 k x y with
  | true => exact zeP (pc' := t) hf (by simp only [zP, zbr, ht, hb, Option.map_some, cond_true]) (kt hb)
  | false => exact zeP (pc' := pc + 3) hf (by simp only [zP, zbr, ht, hb, Option.map_some, cond_false]) (kf hb)
/-- a branch whose side is known -/
theorem zeT1 {k : ClassFile.Cond} {off : Int} {t : Nat} {x : Int32} (hf : zfe j pc = some (.ifCond k off, 3)) (ht : ztg pc off = some t) (hb : zc1 k x = true) (kt : zEv σ d j t lv st M o M') : zEv σ d j pc lv (.int x :: st) M o M' := zeB1 hf ht (fun _ => kt) (fun h => by rw [hb] at h; cases h)
theorem zeF1 {k : ClassFile.Cond} {off : Int} {t : Nat} {x : Int32} (hf : zfe j pc = some (.ifCond k off, 3)) (ht : ztg pc off = some t) (hb : zc1 k x = false) (kf : zEv σ d j (pc + 3) lv st M o M') : zEv σ d j pc lv (.int x :: st) M o M' := zeB1 hf ht (fun h => by rw [hb] at h; cases h) (fun _ => kf)
theorem zeT2 {k : ClassFile.Cond} {off : Int} {t : Nat} {x y : Int32} (hf : zfe j pc = some (.if_icmp k off, 3)) (ht : ztg pc off = some t) (hb : zc2 k x y = true) (kt : zEv σ d j t lv st M o M') : zEv σ d j pc lv (.int y :: .int x :: st) M o M' := zeB2 hf ht (fun _ => kt) (fun h => by rw [hb] at h; cases h)
theorem zeF2 {k : ClassFile.Cond} {off : Int} {t : Nat} {x y : Int32} (hf : zfe j pc = some (.if_icmp k off, 3)) (ht : ztg pc off = some t) (hb : zc2 k x y = false) (kf : zEv σ d j (pc + 3) lv st M o M') : zEv σ d j pc lv (.int y :: .int x :: st) M o M' := zeB2 hf ht (fun h => by rw [hb] at h; cases h) (fun _ => kf)
theorem zeRe {i : Instr} {len : Nat} {v : Option Value} (hf : zfe j pc = some (i, len)) (hp : zP (j / 200) i pc lv st = none) (hs : zS σ (j / 200) (zini j) i pc st M = none) (hr : zret j i st = some v) (ho : o = .inl v) (hM : M' = M) : zEv σ d j pc lv st M o M' := by
  subst ho hM
  exact zeR hf hp hs hr
theorem zeGI {S : List (Nat × Nat × List Nat)} {idx ci k pl a n t : Nat} {rs : List Nat} {f : Bool} (hf : zfe j pc = some (.getfield idx, 3)) (hl : (zfp (j / 200)).lookup idx = some (ci, k, pl)) (hS : S[a]? = some (ci, n, rs)) (ht : (zft ci)[k]? = some (t, f)) (h2 : Nat.beq t 2 = false) (kk : zEv σ d j (pc + 3) lv (.int (m a k) :: r) (S, m, y) o M') : zEv σ d j pc lv (.ref a :: r) (S, m, y) o M' := by
  refine zeS hf rfl ?_ kk
  simp only [zS, zgetf, hl, hS, beq_self_eq_true, cond_true, ht]
  split
  · rename_i h; cases h; cases h2
  · rfl
  · rename_i h; cases h
theorem zeGR {S : List (Nat × Nat × List Nat)} {idx ci k pl a n b : Nat} {rs : List Nat} {f : Bool} (hf : zfe j pc = some (.getfield idx, 3)) (hl : (zfp (j / 200)).lookup idx = some (ci, k, pl)) (hS : S[a]? = some (ci, n, rs)) (ht : (zft ci)[k]? = some (2, f)) (hb : zrv rs k = some b) (kk : zEv σ d j (pc + 3) lv (.ref b :: r) (S, m, y) o M') : zEv σ d j pc lv (.ref a :: r) (S, m, y) o M' := by
  refine zeS hf rfl ?_ kk
  simp only [zS, zgetf, hl, hS, beq_self_eq_true, cond_true, ht, hb]
theorem zePI {S : List (Nat × Nat × List Nat)} {idx ci k pl a n : Nat} {rs : List Nat} {x : Int32} (hf : zfe j pc = some (.putfield idx, 3)) (hl : (zfp (j / 200)).lookup idx = some (ci, k, pl)) (hS : S[a]? = some (ci, n, rs)) (ht : (zft ci)[k]? = some (0, false)) (kk : zEv σ d j (pc + 3) lv r (S, zm2 m a k x, y) o M') : zEv σ d j pc lv (.int x :: .ref a :: r) (S, m, y) o M' := by
  refine zeS hf rfl ?_ kk
  simp only [zS, zputf, hl, hS, beq_self_eq_true, cond_true, ht]
theorem zePB {S : List (Nat × Nat × List Nat)} {idx ci k pl a n : Nat} {rs : List Nat} {x : Int32} (hf : zfe j pc = some (.putfield idx, 3)) (hl : (zfp (j / 200)).lookup idx = some (ci, k, pl)) (hS : S[a]? = some (ci, n, rs)) (ht : (zft ci)[k]? = some (1, false)) (hx : x = 0 ∨ x = 1) (kk : zEv σ d j (pc + 3) lv r (S, zm2 m a k x, y) o M') : zEv σ d j pc lv (.int x :: .ref a :: r) (S, m, y) o M' := by
  refine zeS hf rfl ?_ kk
  simp only [zS, zputf, hl, hS, beq_self_eq_true, cond_true, ht, if_pos hx]
theorem zinB {k n : Nat} (h : k < n) (hn : n ≤ 2000) : zoutB (Int32.ofNat k) n = false := by
  have h31 : k < 2 ^ 31 := Nat.lt_of_lt_of_le h (Nat.le_trans hn (by decide))
  unfold zoutB
  rw [Bool.or_eq_false_iff]
  constructor
  · apply decide_eq_false
    rw [Int32.lt_iff_toInt_lt, Int32.toInt_zero, Int32.toInt_ofNat_of_lt h31]
    omega
  · apply decide_eq_false
    rw [Int32.toNatClampNeg_ofNat_of_lt h31]
    omega
theorem zcl {k n : Nat} (h : k < n) (hn : n ≤ 2000) : (Int32.ofNat k).toNatClampNeg = k := Int32.toNatClampNeg_ofNat_of_lt (Nat.lt_of_lt_of_le h (Nat.le_trans hn (by decide)))
theorem zeAL {S : List (Nat × Nat × List Nat)} {a n k : Nat} {rs : List Nat} (hf : zfe j pc = some (.iaload, 1)) (ha : Nat.blt a 1000 = true) (hS : S[a]? = some (10, n, rs)) (hn : Nat.ble n 2000 = true) (hk : k < n) (kk : zEv σ d j (pc + 1) lv (.int (m a k) :: r) (S, m, y) o M') : zEv σ d j pc lv (.int (Int32.ofNat k) :: .ref a :: r) (S, m, y) o M' := by
  refine zeS hf rfl ?_ kk
  simp only [zS, ziald, ha, cond_true, hS, beq_self_eq_true, zinB hk (Nat.le_of_ble_eq_true hn), zcl hk (Nat.le_of_ble_eq_true hn), Bool.not_false, Bool.and_self]
theorem zeAS {S : List (Nat × Nat × List Nat)} {a n k : Nat} {rs : List Nat} {x : Int32} (hf : zfe j pc = some (.iastore, 1)) (hS : S[a]? = some (10, n, rs)) (hn : Nat.ble n 2000 = true) (hk : k < n) (kk : zEv σ d j (pc + 1) lv r (S, zm2 m a k x, y) o M') : zEv σ d j pc lv (.int x :: .int (Int32.ofNat k) :: .ref a :: r) (S, m, y) o M' := by
  refine zeS hf rfl ?_ kk
  simp only [zS, ziast, hS, beq_self_eq_true, zinB hk (Nat.le_of_ble_eq_true hn), zcl hk (Nat.le_of_ble_eq_true hn), Bool.not_false, Bool.and_self, cond_true]
end ZWK
/-- a call's contract, from a height on -/
noncomputable def zF (σ : Nat → Nat × (Nat → Int32)) (h j : Nat) (as : List Value) (M : zMem) (o : zO) (M' : zMem) : Prop := ∀ d, h ≤ d → zCal σ d j as M o M'
section ZWF
variable {σ : Nat → Nat × (Nat → Int32)} {d j pc : Nat} {lv : zLv} {st : List Value} {M : zMem} {o : zO} {M' : zMem}
theorem zeCF {i : Instr} {len j' h : Nat} {as rest : List Value} {v : Option Value} {M1 : zMem} (hf : zfe j pc = some (i, len)) (hp : zP (j / 200) i pc lv st = none) (hs : zS σ (j / 200) (zini j) i pc st M = none) (hr : zret j i st = none) (ht : zthr j pc = none) (hc : zcall (j / 200) i st M = some (j', as, rest)) (h1 : zF σ h j' as M (.inl v) M1) (hh : h ≤ d) (k : zEv σ (d + 1) j (pc + 3) lv (v.toList ++ rest) M1 o M') : zEv σ (d + 1) j pc lv st M o M' := zeC hf hp hs hr ht hc (h1 d hh) k
theorem zF.up {h h' : Nat} {as : List Value} (hF : zF σ h j as M o M') (hh : h ≤ h') : zF σ h' j as M o M' := fun d hd => hF d (Nat.le_trans hh hd)
end ZWF
/-- a row of the memory put in its place -/
noncomputable def zrow (m : Nat → Nat → Int32) (a : Nat) (w : Nat → Int32) : Nat → Nat → Int32 := fun i => if i = a then w else m i
theorem zrow_at (m : Nat → Nat → Int32) (a : Nat) (w : Nat → Int32) : zrow m a w a = w := if_pos rfl
theorem zrow_self (m : Nat → Nat → Int32) (a : Nat) : zrow m a (m a) = m := by
  funext i
  unfold zrow
  by_cases h : i = a
  · rw [if_pos h, h]
  · rw [if_neg h]
theorem zrow_row (m : Nat → Nat → Int32) (a : Nat) (w w' : Nat → Int32) : zrow (zrow m a w) a w' = zrow m a w' := by
  funext i
  unfold zrow
  by_cases h : i = a
  · rw [if_pos h, if_pos h]
  · rw [if_neg h, if_neg h, if_neg h]
theorem zm2_row (m : Nat → Nat → Int32) (a k : Nat) (w : Nat → Int32) (x : Int32) : zm2 (zrow m a w) a k x = zrow m a (upd w k x) := by
  have h : zm2 (zrow m a w) a k x = zrow (zrow m a w) a (upd (zrow m a w a) k x) := rfl
  rw [h, zrow_row, zrow_at]
theorem zm2_com (m : Nat → Nat → Int32) (a b k : Nat) (w : Nat → Int32) (x : Int32) (hab : b ≠ a) : zm2 (zrow m a w) b k x = zrow (zm2 m b k x) a w := by
  funext i
  unfold zm2 zrow
  by_cases h : i = b
  · subst h
    rw [if_pos rfl, if_neg hab, if_neg hab]
    show upd (m i) k x = if i = i then upd (m i) k x else m i
    rw [if_pos rfl]
  · rw [if_neg h]
    by_cases h2 : i = a
    · rw [if_pos h2, if_pos h2]
    · rw [if_neg h2, if_neg h2]
      show m i = if i = b then upd (m b) k x else m i
      rw [if_neg h]
theorem zS137 : zS1[137]? = some (9, 0, [0, 139, 140, 141, 0, 0, 142, 0, 0, 0, 0, 0, 143, 144, 145, 146, 0]) := rfl
theorem zS138 : zS1[138]? = some (10, 788, []) := rfl
section ZWL
variable {σ : Nat → Nat × (Nat → Int32)} {d j pc : Nat} {lv : zLv} {r st : List Value} {m : Nat → Nat → Int32} {W : Nat → Int32} {y : (Nat → Nat → Int64) × Bool × Nat × Nat} {o : zO} {M M' : zMem}
theorem zeWL {k : Nat} (hf : zfe j pc = some (.iaload, 1)) (hk : k < 788) (kk : zEv σ d j (pc + 1) lv (.int (W k) :: r) (zS1, zrow m 138 W, y) o M') : zEv σ d j pc lv (.int (Int32.ofNat k) :: .ref 138 :: r) (zS1, zrow m 138 W, y) o M' := by
  have e : zrow m 138 W 138 k = W k := by rw [zrow_at]
  refine zeAL hf rfl zS138 rfl hk ?_
  rw [e]
  exact kk
theorem zeWS {k : Nat} {x : Int32} (hf : zfe j pc = some (.iastore, 1)) (hk : k < 788) (kk : zEv σ d j (pc + 1) lv r (zS1, zrow m 138 (upd W k x), y) o M') : zEv σ d j pc lv (.int x :: .int (Int32.ofNat k) :: .ref 138 :: r) (zS1, zrow m 138 W, y) o M' := by
  refine zeAS hf zS138 rfl hk ?_
  rw [zm2_row]
  exact kk
theorem zrow_137 (k : Nat) : zrow m 138 W 137 k = m 137 k := by
  unfold zrow
  rw [if_neg (by decide)]
theorem zeFI {idx k pl t : Nat} {f : Bool} (hf : zfe j pc = some (.getfield idx, 3)) (hl : (zfp (j / 200)).lookup idx = some (9, k, pl)) (ht : (zft 9)[k]? = some (t, f)) (h2 : Nat.beq t 2 = false) (kk : zEv σ d j (pc + 3) lv (.int (m 137 k) :: r) (zS1, zrow m 138 W, y) o M') : zEv σ d j pc lv (.ref 137 :: r) (zS1, zrow m 138 W, y) o M' := by
  refine zeGI hf hl zS137 ht h2 ?_
  rw [zrow_137]
  exact kk
theorem zeFP {idx k pl : Nat} {x : Int32} (hf : zfe j pc = some (.putfield idx, 3)) (hl : (zfp (j / 200)).lookup idx = some (9, k, pl)) (ht : (zft 9)[k]? = some (0, false)) (kk : zEv σ d j (pc + 3) lv r (zS1, zrow (zm2 m 137 k x) 138 W, y) o M') : zEv σ d j pc lv (.int x :: .ref 137 :: r) (zS1, zrow m 138 W, y) o M' := by
  refine zePI hf hl zS137 ht ?_
  rw [zm2_com _ _ _ _ _ _ (by decide)]
  exact kk
theorem zeFB {idx k pl : Nat} {x : Int32} (hf : zfe j pc = some (.putfield idx, 3)) (hl : (zfp (j / 200)).lookup idx = some (9, k, pl)) (ht : (zft 9)[k]? = some (1, false)) (hx : x = 0 ∨ x = 1) (kk : zEv σ d j (pc + 3) lv r (zS1, zrow (zm2 m 137 k x) 138 W, y) o M') : zEv σ d j pc lv (.int x :: .ref 137 :: r) (zS1, zrow m 138 W, y) o M' := by
  refine zePB hf hl zS137 ht hx ?_
  rw [zm2_com _ _ _ _ _ _ (by decide)]
  exact kk
theorem zeDiv {a b : Int32} (hf : zfe j pc = some (.idiv, 1)) (hb : ¬ b = 0) (kk : zEv σ d j (pc + 1) lv (.int (a / b) :: r) M o M') : zEv σ d j pc lv (.int b :: .int a :: r) M o M' := by
  refine zeP hf ?_ kk
  simp only [zP, z2d, if_neg hb]
theorem zeRem {a b : Int32} (hf : zfe j pc = some (.irem, 1)) (hb : ¬ b = 0) (kk : zEv σ d j (pc + 1) lv (.int (a - a / b * b) :: r) M o M') : zEv σ d j pc lv (.int b :: .int a :: r) M o M' := by
  refine zeP hf ?_ kk
  simp only [zP, z2d, if_neg hb]
end ZWL
theorem zretB {j : Nat} {q : zMt} {b : Int32} (hj : zent j = some q) (hq : q.2.2.2.1 = some .boolean) (hb : b = 0 ∨ b = 1) : zret j .ireturn [.int b] = some (some (.int b)) := by
  unfold zret
  simp only [hj, hq, if_pos hb]
theorem zoN {a : Nat} (h : a < 2147483648) : (Int32.ofNat a).toInt = a := Int32.toInt_ofNat_of_lt h
theorem zcge {a b : Nat} (ha : a < 2147483648) (hb : b < 2147483648) (h : b ≤ a) : zc2 .ge (Int32.ofNat a) (Int32.ofNat b) = true := by
  apply decide_eq_true
  rw [Int32.le_iff_toInt_le, zoN ha, zoN hb]
  omega
theorem zcge_f {a b : Nat} (ha : a < 2147483648) (hb : b < 2147483648) (h : a < b) : zc2 .ge (Int32.ofNat a) (Int32.ofNat b) = false := by
  apply decide_eq_false
  rw [Int32.le_iff_toInt_le, zoN ha, zoN hb]
  omega
/-- the nat number that a cell holds -/
noncomputable def nv (W : Nat → Int32) (k : Nat) : Nat := (W k).toNatClampNeg
theorem upd_at (W : Nat → Int32) (k : Nat) (x : Int32) : upd W k x k = x := if_pos rfl
theorem upd_ne (W : Nat → Int32) {k l : Nat} (x : Int32) (h : l ≠ k) : upd W k x l = W l := if_neg h
end
section
noncomputable def q_holds (s : Int32) (k : Nat) : Int32 := (bif zc2 .ne ((s.toUInt32 >>> (((Int32.ofNat k)).toUInt32 &&& Int32.toUInt32 31)).toInt32 &&& (Int32.ofNat 1)) (Int32.ofNat 1) then (Int32.ofNat 0) else (Int32.ofNat 1))
theorem p_holds {σ : Nat → Nat × (Nat → Int32)} {yy : (Nat → Nat → Int64) × Bool × Nat × Nat} {m : Nat → Nat → Int32} {W : Nat → Int32} {s : Int32} {k : Nat} {d : Nat} (hd : 1 ≤ d + 1) : zEv σ (d + 1) 1803 0 [some (.int s), some (.int (Int32.ofNat k))] [] (zS1, zrow m 138 W, yy) (.inl (some (.int (q_holds s k)))) (zS1, zrow m 138 W, yy) := by
  refine zeP rfl rfl ?_
  refine zeP rfl rfl ?_
  refine zeP rfl rfl ?_
  refine zeKn (c := 1) rfl rfl rfl ?_
  refine zeP rfl rfl ?_
  refine zeKn (c := 1) rfl rfl rfl ?_
  refine zeB2 rfl rfl (fun h1 => ?_) (fun h1 => ?_)
  · refine zeKn (c := 0) rfl rfl rfl ?_
    exact zeRe rfl rfl rfl rfl (by simp only [q_holds, h1, cond_true, cond_false] <;> rfl) (by simp only [q_holds, h1, cond_true, cond_false] <;> rfl)
  · refine zeKn (c := 1) rfl rfl rfl ?_
    refine zeP rfl rfl ?_
    exact zeRe rfl rfl rfl rfl (by simp only [q_holds, h1, cond_true, cond_false] <;> rfl) (by simp only [q_holds, h1, cond_true, cond_false] <;> rfl)
theorem c_holds {σ : Nat → Nat × (Nat → Int32)} {yy : (Nat → Nat → Int64) × Bool × Nat × Nat} {m : Nat → Nat → Int32} {W : Nat → Int32} {s : Int32} {k : Nat} : zF σ 1 1803 [.int s, .int (Int32.ofNat k)] (zS1, zrow m 138 W, yy) (.inl (some (.int (q_holds s k)))) (zS1, zrow m 138 W, yy) := by
  intro d hd
  obtain ⟨d, rfl⟩ : ∃ k, d = k + 1 := ⟨d - 1, by omega⟩
  exact p_holds hd 
noncomputable def q_in (v : Int32) (lo : Int32) (hi : Int32) : Int32 := (bif zc2 .lt v lo then (Int32.ofNat 0) else (bif zc2 .gt v hi then (Int32.ofNat 0) else (Int32.ofNat 1)))
theorem p_in {σ : Nat → Nat × (Nat → Int32)} {yy : (Nat → Nat → Int64) × Bool × Nat × Nat} {m : Nat → Nat → Int32} {W : Nat → Int32} {v : Int32} {lo : Int32} {hi : Int32} {d : Nat} (hd : 1 ≤ d + 1) : zEv σ (d + 1) 1802 0 [some (.int v), some (.int lo), some (.int hi)] [] (zS1, zrow m 138 W, yy) (.inl (some (.int (q_in v lo hi)))) (zS1, zrow m 138 W, yy) := by
  refine zeP rfl rfl ?_
  refine zeP rfl rfl ?_
  refine zeB2 rfl rfl (fun h1 => ?_) (fun h1 => ?_)
  · refine zeKn (c := 0) rfl rfl rfl ?_
    exact zeRe rfl rfl rfl rfl (by simp only [q_in, h1, cond_true, cond_false] <;> rfl) (by simp only [q_in, h1, cond_true, cond_false] <;> rfl)
  · refine zeP rfl rfl ?_
    refine zeP rfl rfl ?_
    refine zeB2 rfl rfl (fun h2 => ?_) (fun h2 => ?_)
    · refine zeKn (c := 0) rfl rfl rfl ?_
      exact zeRe rfl rfl rfl rfl (by simp only [q_in, h1, h2, cond_true, cond_false] <;> rfl) (by simp only [q_in, h1, h2, cond_true, cond_false] <;> rfl)
    · refine zeKn (c := 1) rfl rfl rfl ?_
      refine zeP rfl rfl ?_
      exact zeRe rfl rfl rfl rfl (by simp only [q_in, h1, h2, cond_true, cond_false] <;> rfl) (by simp only [q_in, h1, h2, cond_true, cond_false] <;> rfl)
theorem c_in {σ : Nat → Nat × (Nat → Int32)} {yy : (Nat → Nat → Int64) × Bool × Nat × Nat} {m : Nat → Nat → Int32} {W : Nat → Int32} {v : Int32} {lo : Int32} {hi : Int32} : zF σ 1 1802 [.int v, .int lo, .int hi] (zS1, zrow m 138 W, yy) (.inl (some (.int (q_in v lo hi)))) (zS1, zrow m 138 W, yy) := by
  intro d hd
  obtain ⟨d, rfl⟩ : ∃ k, d = k + 1 := ⟨d - 1, by omega⟩
  exact p_in hd 
noncomputable def q_throwsIf (m : Nat → Nat → Int32) (b : Int32) (c : Nat) : Int32 × (Nat → Nat → Int32) := (bif zc1 .eq b then (b, m) else (b, (zm2 m 137 0 (Int32.ofNat c))))
theorem p_throwsIf {σ : Nat → Nat × (Nat → Int32)} {yy : (Nat → Nat → Int64) × Bool × Nat × Nat} {m : Nat → Nat → Int32} {W : Nat → Int32} {b : Int32} {c : Nat} {d : Nat} (hd : 1 ≤ d + 1) (hb : b = 0 ∨ b = 1) : zEv σ (d + 1) 1801 0 [some (.ref 137), some (.int b), some (.int (Int32.ofNat c))] [] (zS1, zrow m 138 W, yy) (.inl (some (.int (q_throwsIf m b c).1))) (zS1, zrow ((q_throwsIf m b c).2) 138 W, yy) := by
  refine zeP rfl rfl ?_
  refine zeB1 rfl rfl (fun h1 => ?_) (fun h1 => ?_)
  · refine zeP rfl rfl ?_
    exact zeRe rfl rfl rfl (zretB rfl rfl hb) (by simp only [q_throwsIf, h1, cond_true, cond_false] <;> rfl) (by simp only [q_throwsIf, h1, cond_true, cond_false] <;> rfl)
  · refine zeP rfl rfl ?_
    refine zeP rfl rfl ?_
    refine zeFP rfl rfl rfl ?_
    refine zeP rfl rfl ?_
    exact zeRe rfl rfl rfl (zretB rfl rfl hb) (by simp only [q_throwsIf, h1, cond_true, cond_false] <;> rfl) (by simp only [q_throwsIf, h1, cond_true, cond_false] <;> rfl)
theorem c_throwsIf {σ : Nat → Nat × (Nat → Int32)} {yy : (Nat → Nat → Int64) × Bool × Nat × Nat} {m : Nat → Nat → Int32} {W : Nat → Int32} {b : Int32} {c : Nat} (hb : b = 0 ∨ b = 1) : zF σ 1 1801 [.ref 137, .int b, .int (Int32.ofNat c)] (zS1, zrow m 138 W, yy) (.inl (some (.int (q_throwsIf m b c).1))) (zS1, zrow ((q_throwsIf m b c).2) 138 W, yy) := by
  intro d hd
  obtain ⟨d, rfl⟩ : ∃ k, d = k + 1 := ⟨d - 1, by omega⟩
  exact p_throwsIf hd hb
noncomputable def q_threads (W : Nat → Int32) : Int32 := (W 9)
theorem p_threads {σ : Nat → Nat × (Nat → Int32)} {yy : (Nat → Nat → Int64) × Bool × Nat × Nat} {m : Nat → Nat → Int32} {W : Nat → Int32} {d : Nat} (hd : 1 ≤ d + 1) : zEv σ (d + 1) 1809 0 [some (.ref 137)] [] (zS1, zrow m 138 W, yy) (.inl (some (.int (q_threads W)))) (zS1, zrow m 138 W, yy) := by
  refine zeP rfl rfl ?_
  refine zeGR rfl rfl zS137 rfl rfl ?_
  refine zeKn (c := 9) rfl rfl rfl ?_
  refine zeWL (k := 9) rfl (by omega) ?_
  exact zeRe rfl rfl rfl rfl (by rfl) (by rfl)
theorem c_threads {σ : Nat → Nat × (Nat → Int32)} {yy : (Nat → Nat → Int64) × Bool × Nat × Nat} {m : Nat → Nat → Int32} {W : Nat → Int32} : zF σ 1 1809 [.ref 137] (zS1, zrow m 138 W, yy) (.inl (some (.int (q_threads W)))) (zS1, zrow m 138 W, yy) := by
  intro d hd
  obtain ⟨d, rfl⟩ : ∃ k, d = k + 1 := ⟨d - 1, by omega⟩
  exact p_threads hd 
noncomputable def q_at (t : Nat) (k : Nat) : Int32 := (Int32.ofNat ((376 + (103 * t)) + k))
theorem p_at {σ : Nat → Nat × (Nat → Int32)} {yy : (Nat → Nat → Int64) × Bool × Nat × Nat} {m : Nat → Nat → Int32} {W : Nat → Int32} {t : Nat} {k : Nat} {d : Nat} (hd : 1 ≤ d + 1) : zEv σ (d + 1) 1810 0 [some (.int (Int32.ofNat t)), some (.int (Int32.ofNat k))] [] (zS1, zrow m 138 W, yy) (.inl (some (.int (q_at t k)))) (zS1, zrow m 138 W, yy) := by
  refine zeKn (c := 376) rfl rfl rfl ?_
  refine zeKn (c := 103) rfl rfl rfl ?_
  refine zeP rfl rfl ?_
  refine zeMul rfl ?_
  refine zeAdd rfl ?_
  refine zeP rfl rfl ?_
  refine zeAdd rfl ?_
  exact zeRe rfl rfl rfl rfl (by rfl) (by rfl)
theorem c_at {σ : Nat → Nat × (Nat → Int32)} {yy : (Nat → Nat → Int64) × Bool × Nat × Nat} {m : Nat → Nat → Int32} {W : Nat → Int32} {t : Nat} {k : Nat} : zF σ 1 1810 [.int (Int32.ofNat t), .int (Int32.ofNat k)] (zS1, zrow m 138 W, yy) (.inl (some (.int (q_at t k)))) (zS1, zrow m 138 W, yy) := by
  intro d hd
  obtain ⟨d, rfl⟩ : ∃ k, d = k + 1 := ⟨d - 1, by omega⟩
  exact p_at hd 
noncomputable def q_of (W : Nat → Int32) (t : Nat) (k : Nat) : Int32 := (W (376 + 103 * t + k))
theorem p_of {σ : Nat → Nat × (Nat → Int32)} {yy : (Nat → Nat → Int64) × Bool × Nat × Nat} {m : Nat → Nat → Int32} {W : Nat → Int32} {t : Nat} {k : Nat} {d : Nat} (hd : 2 ≤ d + 1) (hk : 376 + 103 * t + k < 788) : zEv σ (d + 1) 1811 0 [some (.ref 137), some (.int (Int32.ofNat t)), some (.int (Int32.ofNat k))] [] (zS1, zrow m 138 W, yy) (.inl (some (.int (q_of W t k)))) (zS1, zrow m 138 W, yy) := by
  refine zeP rfl rfl ?_
  refine zeGR rfl rfl zS137 rfl rfl ?_
  refine zeP rfl rfl ?_
  refine zeP rfl rfl ?_
  refine zeCF rfl rfl rfl rfl rfl rfl (c_at (m := m) (W := W) (t := t) (k := k) ) (by omega) ?_
  dsimp only [Option.toList, List.cons_append, List.nil_append]
  refine zeWL (k := (376 + 103 * t + k)) rfl (by omega) ?_
  exact zeRe rfl rfl rfl rfl (by rfl) (by rfl)
theorem c_of {σ : Nat → Nat × (Nat → Int32)} {yy : (Nat → Nat → Int64) × Bool × Nat × Nat} {m : Nat → Nat → Int32} {W : Nat → Int32} {t : Nat} {k : Nat} (hk : 376 + 103 * t + k < 788) : zF σ 2 1811 [.ref 137, .int (Int32.ofNat t), .int (Int32.ofNat k)] (zS1, zrow m 138 W, yy) (.inl (some (.int (q_of W t k)))) (zS1, zrow m 138 W, yy) := by
  intro d hd
  obtain ⟨d, rfl⟩ : ∃ k, d = k + 1 := ⟨d - 1, by omega⟩
  exact p_of hd hk
noncomputable def q_isDone (W : Nat → Int32) (t : Nat) : Int32 := (bif zc2 .ne (q_of W t 0) (q_of W t 22) then (Int32.ofNat 0) else (Int32.ofNat 1))
theorem p_isDone {σ : Nat → Nat × (Nat → Int32)} {yy : (Nat → Nat → Int64) × Bool × Nat × Nat} {m : Nat → Nat → Int32} {W : Nat → Int32} {t : Nat} {d : Nat} (hd : 3 ≤ d + 1) (ht : t < 4) : zEv σ (d + 1) 1812 0 [some (.ref 137), some (.int (Int32.ofNat t))] [] (zS1, zrow m 138 W, yy) (.inl (some (.int (q_isDone W t)))) (zS1, zrow m 138 W, yy) := by
  refine zeP rfl rfl ?_
  refine zeP rfl rfl ?_
  refine zeKn (c := 0) rfl rfl rfl ?_
  refine zeCF rfl rfl rfl rfl rfl rfl (c_of (m := m) (W := W) (t := t) (k := 0) (by first | assumption | omega)) (by omega) ?_
  dsimp only [Option.toList, List.cons_append, List.nil_append]
  refine zeP rfl rfl ?_
  refine zeP rfl rfl ?_
  refine zeKn (c := 22) rfl rfl rfl ?_
  refine zeCF rfl rfl rfl rfl rfl rfl (c_of (m := m) (W := W) (t := t) (k := 22) (by first | assumption | omega)) (by omega) ?_
  dsimp only [Option.toList, List.cons_append, List.nil_append]
  refine zeB2 rfl rfl (fun h1 => ?_) (fun h1 => ?_)
  · refine zeKn (c := 0) rfl rfl rfl ?_
    exact zeRe rfl rfl rfl rfl (by simp only [q_isDone, h1, cond_true, cond_false] <;> rfl) (by simp only [q_isDone, h1, cond_true, cond_false] <;> rfl)
  · refine zeKn (c := 1) rfl rfl rfl ?_
    refine zeP rfl rfl ?_
    exact zeRe rfl rfl rfl rfl (by simp only [q_isDone, h1, cond_true, cond_false] <;> rfl) (by simp only [q_isDone, h1, cond_true, cond_false] <;> rfl)
theorem c_isDone {σ : Nat → Nat × (Nat → Int32)} {yy : (Nat → Nat → Int64) × Bool × Nat × Nat} {m : Nat → Nat → Int32} {W : Nat → Int32} {t : Nat} (ht : t < 4) : zF σ 3 1812 [.ref 137, .int (Int32.ofNat t)] (zS1, zrow m 138 W, yy) (.inl (some (.int (q_isDone W t)))) (zS1, zrow m 138 W, yy) := by
  intro d hd
  obtain ⟨d, rfl⟩ : ∃ k, d = k + 1 := ⟨d - 1, by omega⟩
  exact p_isDone hd ht
noncomputable def q_deedOf (W : Nat → Int32) (t : Nat) (p : Nat) (k : Nat) : Int32 := (q_of W t (((55 + (2 * p)) + k)))
theorem p_deedOf {σ : Nat → Nat × (Nat → Int32)} {yy : (Nat → Nat → Int64) × Bool × Nat × Nat} {m : Nat → Nat → Int32} {W : Nat → Int32} {t : Nat} {p : Nat} {k : Nat} {d : Nat} (hd : 3 ≤ d + 1) (ht : 376 + 103 * t + (55 + 2 * p + k) < 788) : zEv σ (d + 1) 1813 0 [some (.ref 137), some (.int (Int32.ofNat t)), some (.int (Int32.ofNat p)), some (.int (Int32.ofNat k))] [] (zS1, zrow m 138 W, yy) (.inl (some (.int (q_deedOf W t p k)))) (zS1, zrow m 138 W, yy) := by
  refine zeP rfl rfl ?_
  refine zeP rfl rfl ?_
  refine zeKn (c := 55) rfl rfl rfl ?_
  refine zeKn (c := 2) rfl rfl rfl ?_
  refine zeP rfl rfl ?_
  refine zeMul rfl ?_
  refine zeAdd rfl ?_
  refine zeP rfl rfl ?_
  refine zeAdd rfl ?_
  refine zeCF rfl rfl rfl rfl rfl rfl (c_of (m := m) (W := W) (t := t) (k := ((55 + (2 * p)) + k)) (by first | assumption | omega)) (by omega) ?_
  dsimp only [Option.toList, List.cons_append, List.nil_append]
  exact zeRe rfl rfl rfl rfl (by rfl) (by rfl)
theorem c_deedOf {σ : Nat → Nat × (Nat → Int32)} {yy : (Nat → Nat → Int64) × Bool × Nat × Nat} {m : Nat → Nat → Int32} {W : Nat → Int32} {t : Nat} {p : Nat} {k : Nat} (ht : 376 + 103 * t + (55 + 2 * p + k) < 788) : zF σ 3 1813 [.ref 137, .int (Int32.ofNat t), .int (Int32.ofNat p), .int (Int32.ofNat k)] (zS1, zrow m 138 W, yy) (.inl (some (.int (q_deedOf W t p k)))) (zS1, zrow m 138 W, yy) := by
  intro d hd
  obtain ⟨d, rfl⟩ : ∃ k, d = k + 1 := ⟨d - 1, by omega⟩
  exact p_deedOf hd ht
noncomputable def q_blockOf (W : Nat → Int32) (w : Int32) : Int32 := ((Int32.ofNat 1) <<< ((w / (W 0)) &&& 31))
theorem p_blockOf {σ : Nat → Nat × (Nat → Int32)} {yy : (Nat → Nat → Int64) × Bool × Nat × Nat} {m : Nat → Nat → Int32} {W : Nat → Int32} {w : Int32} {d : Nat} (hd : 1 ≤ d + 1) (hz : ¬ W 0 = 0) : zEv σ (d + 1) 1814 0 [some (.ref 137), some (.int w)] [] (zS1, zrow m 138 W, yy) (.inl (some (.int (q_blockOf W w)))) (zS1, zrow m 138 W, yy) := by
  refine zeKn (c := 1) rfl rfl rfl ?_
  refine zeP rfl rfl ?_
  refine zeP rfl rfl ?_
  refine zeGR rfl rfl zS137 rfl rfl ?_
  refine zeKn (c := 0) rfl rfl rfl ?_
  refine zeWL (k := 0) rfl (by omega) ?_
  refine zeDiv rfl hz ?_
  refine zeP rfl rfl ?_
  exact zeRe rfl rfl rfl rfl (by rfl) (by rfl)
theorem c_blockOf {σ : Nat → Nat × (Nat → Int32)} {yy : (Nat → Nat → Int64) × Bool × Nat × Nat} {m : Nat → Nat → Int32} {W : Nat → Int32} {w : Int32} (hz : ¬ W 0 = 0) : zF σ 1 1814 [.ref 137, .int w] (zS1, zrow m 138 W, yy) (.inl (some (.int (q_blockOf W w)))) (zS1, zrow m 138 W, yy) := by
  intro d hd
  obtain ⟨d, rfl⟩ : ∃ k, d = k + 1 := ⟨d - 1, by omega⟩
  exact p_blockOf hd hz
noncomputable def q_ends (W : Nat → Int32) (t : Nat) : (Nat → Int32) := (upd ((upd ((upd ((upd ((upd W (376 + 103 * t + 2) (Int32.ofNat 0))) (376 + 103 * t + 10) (Int32.ofNat 0))) (376 + 103 * t + 15) (Int32.ofNat 0))) (376 + 103 * t + 16) (Int32.ofNat 0))) (376 + 103 * t + 17) (Int32.ofNat 0))
theorem p_ends {σ : Nat → Nat × (Nat → Int32)} {yy : (Nat → Nat → Int64) × Bool × Nat × Nat} {m : Nat → Nat → Int32} {W : Nat → Int32} {t : Nat} {d : Nat} (hd : 2 ≤ d + 1) (ht : t < 4) : zEv σ (d + 1) 1816 0 [some (.ref 137), some (.int (Int32.ofNat t))] [] (zS1, zrow m 138 W, yy) (.inl none) (zS1, zrow m 138 ((q_ends W t)), yy) := by
  refine zeP rfl rfl ?_
  refine zeGR rfl rfl zS137 rfl rfl ?_
  refine zeP rfl rfl ?_
  refine zeKn (c := 2) rfl rfl rfl ?_
  refine zeCF rfl rfl rfl rfl rfl rfl (c_at (m := m) (W := W) (t := t) (k := 2) ) (by omega) ?_
  dsimp only [Option.toList, List.cons_append, List.nil_append]
  refine zeKn (c := 0) rfl rfl rfl ?_
  refine zeWS (k := (376 + 103 * t + 2)) rfl (by omega) ?_
  refine zeP rfl rfl ?_
  refine zeGR rfl rfl zS137 rfl rfl ?_
  refine zeP rfl rfl ?_
  refine zeKn (c := 10) rfl rfl rfl ?_
  refine zeCF rfl rfl rfl rfl rfl rfl (c_at (m := m) (W := (upd W (376 + 103 * t + 2) (Int32.ofNat 0))) (t := t) (k := 10) ) (by omega) ?_
  dsimp only [Option.toList, List.cons_append, List.nil_append]
  refine zeKn (c := 0) rfl rfl rfl ?_
  refine zeWS (k := (376 + 103 * t + 10)) rfl (by omega) ?_
  refine zeP rfl rfl ?_
  refine zeGR rfl rfl zS137 rfl rfl ?_
  refine zeP rfl rfl ?_
  refine zeKn (c := 15) rfl rfl rfl ?_
  refine zeCF rfl rfl rfl rfl rfl rfl (c_at (m := m) (W := (upd ((upd W (376 + 103 * t + 2) (Int32.ofNat 0))) (376 + 103 * t + 10) (Int32.ofNat 0))) (t := t) (k := 15) ) (by omega) ?_
  dsimp only [Option.toList, List.cons_append, List.nil_append]
  refine zeKn (c := 0) rfl rfl rfl ?_
  refine zeWS (k := (376 + 103 * t + 15)) rfl (by omega) ?_
  refine zeP rfl rfl ?_
  refine zeGR rfl rfl zS137 rfl rfl ?_
  refine zeP rfl rfl ?_
  refine zeKn (c := 16) rfl rfl rfl ?_
  refine zeCF rfl rfl rfl rfl rfl rfl (c_at (m := m) (W := (upd ((upd ((upd W (376 + 103 * t + 2) (Int32.ofNat 0))) (376 + 103 * t + 10) (Int32.ofNat 0))) (376 + 103 * t + 15) (Int32.ofNat 0))) (t := t) (k := 16) ) (by omega) ?_
  dsimp only [Option.toList, List.cons_append, List.nil_append]
  refine zeKn (c := 0) rfl rfl rfl ?_
  refine zeWS (k := (376 + 103 * t + 16)) rfl (by omega) ?_
  refine zeP rfl rfl ?_
  refine zeGR rfl rfl zS137 rfl rfl ?_
  refine zeP rfl rfl ?_
  refine zeKn (c := 17) rfl rfl rfl ?_
  refine zeCF rfl rfl rfl rfl rfl rfl (c_at (m := m) (W := (upd ((upd ((upd ((upd W (376 + 103 * t + 2) (Int32.ofNat 0))) (376 + 103 * t + 10) (Int32.ofNat 0))) (376 + 103 * t + 15) (Int32.ofNat 0))) (376 + 103 * t + 16) (Int32.ofNat 0))) (t := t) (k := 17) ) (by omega) ?_
  dsimp only [Option.toList, List.cons_append, List.nil_append]
  refine zeKn (c := 0) rfl rfl rfl ?_
  refine zeWS (k := (376 + 103 * t + 17)) rfl (by omega) ?_
  exact zeRe rfl rfl rfl rfl (by rfl) (by rfl)
theorem c_ends {σ : Nat → Nat × (Nat → Int32)} {yy : (Nat → Nat → Int64) × Bool × Nat × Nat} {m : Nat → Nat → Int32} {W : Nat → Int32} {t : Nat} (ht : t < 4) : zF σ 2 1816 [.ref 137, .int (Int32.ofNat t)] (zS1, zrow m 138 W, yy) (.inl none) (zS1, zrow m 138 ((q_ends W t)), yy) := by
  intro d hd
  obtain ⟨d, rfl⟩ : ∃ k, d = k + 1 := ⟨d - 1, by omega⟩
  exact p_ends hd ht
noncomputable def l_bits (s : Int32) : Nat → Int32 → Nat → Int32
  | 0, c, k => c
  | n + 1, c, k => (l_bits s n ((c + ((s.toUInt32 >>> (((Int32.ofNat k)).toUInt32 &&& Int32.toUInt32 31)).toInt32 &&& (Int32.ofNat 1)))) ((k + 1)))
theorem w_bits {σ : Nat → Nat × (Nat → Int32)} {yy : (Nat → Nat → Int64) × Bool × Nat × Nat} {m : Nat → Nat → Int32} {W : Nat → Int32} {s : Int32} {d : Nat} (hd : 1 ≤ d + 1) : ∀ (n : Nat) (c : Int32) (k : Nat), k + n = 32 → zEv σ (d + 1) 1804 4 [some (.int s), some (.int c), some (.int (Int32.ofNat k))] [] (zS1, zrow m 138 W, yy) (.inl (some (.int (l_bits s n c k)))) (zS1, zrow m 138 W, yy) := by
  intro n
  induction n with
  | zero =>
    intro c k hk
    refine zeP rfl rfl ?_
    refine zeKn (c := 32) rfl rfl rfl ?_
    refine zeT2 rfl rfl (zcge (by omega) (by omega) (by omega)) ?_
    refine zeP rfl rfl ?_
    exact zeRe rfl rfl rfl rfl (by rfl) (by rfl)
  | succ n ih =>
    intro c k hk
    refine zeP rfl rfl ?_
    refine zeKn (c := 32) rfl rfl rfl ?_
    refine zeF2 rfl rfl (zcge_f (by omega) (by omega) (by omega)) ?_
    refine zeP rfl rfl ?_
    refine zeP rfl rfl ?_
    refine zeP rfl rfl ?_
    refine zeP rfl rfl ?_
    refine zeKn (c := 1) rfl rfl rfl ?_
    refine zeP rfl rfl ?_
    refine zeP rfl rfl ?_
    refine zeP rfl rfl ?_
    refine zeInc rfl rfl ?_
    refine zeP rfl rfl ?_
    simp only [l_bits, cond_true, cond_false]
    exact ih ((c + ((s.toUInt32 >>> (((Int32.ofNat k)).toUInt32 &&& Int32.toUInt32 31)).toInt32 &&& (Int32.ofNat 1)))) ((k + 1))   (by omega) 
noncomputable def q_bits (s : Int32) : Int32 := (l_bits s 32 ((Int32.ofNat 0)) 0)
theorem p_bits {σ : Nat → Nat × (Nat → Int32)} {yy : (Nat → Nat → Int64) × Bool × Nat × Nat} {m : Nat → Nat → Int32} {W : Nat → Int32} {s : Int32} {d : Nat} (hd : 1 ≤ d + 1) : zEv σ (d + 1) 1804 0 [some (.int s), none, none] [] (zS1, zrow m 138 W, yy) (.inl (some (.int (q_bits s)))) (zS1, zrow m 138 W, yy) := by
  refine zeKn (c := 0) rfl rfl rfl ?_
  refine zeP rfl rfl ?_
  refine zeKn (c := 0) rfl rfl rfl ?_
  refine zeP rfl rfl ?_
  simp only [q_bits, cond_true, cond_false]
  exact w_bits (s := s) (W := W) (m := m) (by omega)  32 ((Int32.ofNat 0)) (0)   (by omega) 
theorem c_bits {σ : Nat → Nat × (Nat → Int32)} {yy : (Nat → Nat → Int64) × Bool × Nat × Nat} {m : Nat → Nat → Int32} {W : Nat → Int32} {s : Int32} : zF σ 1 1804 [.int s] (zS1, zrow m 138 W, yy) (.inl (some (.int (q_bits s)))) (zS1, zrow m 138 W, yy) := by
  intro d hd
  obtain ⟨d, rfl⟩ : ∃ k, d = k + 1 := ⟨d - 1, by omega⟩
  exact p_bits hd 
end
section
theorem zl60 {W : Nat → Int32} (h : W 15 = Int32.ofNat 60) : upd W 15 (W 15 - Int32.ofNat 1) 15 = Int32.ofNat (nv (upd W 15 (W 15 - Int32.ofNat 1)) 15) ∧ nv (upd W 15 (W 15 - Int32.ofNat 1)) 15 < 60 := by
  unfold nv
  rw [upd_at, h]
  decide
theorem znelt {W : Nat → Int32} {k b : Nat} (hb : b < 2147483648) (h : W k = Int32.ofNat (nv W k)) (hle : nv W k ≤ b) (hc : zc2 .ne (W k) (Int32.ofNat b) = true) : nv W k < b := by
  have h1 : ¬ W k = Int32.ofNat b := of_decide_eq_true hc
  have h2 : nv W k ≠ b := fun e => h1 (by rw [h, e])
  omega
theorem zeqn {W : Nat → Int32} {k b : Nat} (hc : zc2 .ne (W k) (Int32.ofNat b) = false) : W k = Int32.ofNat b := by
  have h1 := of_decide_eq_false hc
  exact Classical.byContradiction (fun q => h1 q)
noncomputable def q_logsT (W : Nat → Int32) (t : Int32) (w : Int32) (v : Int32) : (Nat → Int32) := (upd ((upd ((upd ((upd ((upd W (136 + (4 * (nv W 15))) (W 11))) ((136 + (4 * (nv W 15))) + 1) t)) ((136 + (4 * (nv W 15))) + 2) w)) ((136 + (4 * (nv W 15))) + 3) v)) 15 ((((upd ((upd ((upd ((upd W (136 + (4 * (nv W 15))) (W 11))) ((136 + (4 * (nv W 15))) + 1) t)) ((136 + (4 * (nv W 15))) + 2) w)) ((136 + (4 * (nv W 15))) + 3) v)) 15) + (Int32.ofNat 1)))
theorem p_logsT {σ : Nat → Nat × (Nat → Int32)} {yy : (Nat → Nat → Int64) × Bool × Nat × Nat} {m : Nat → Nat → Int32} {W : Nat → Int32} {t : Int32} {w : Int32} {v : Int32} {x4 : Option Value} {d : Nat} (hd : 1 ≤ d + 1) (hC : W 15 = Int32.ofNat (nv W 15)) (hC60 : nv W 15 < 60) : zEv σ (d + 1) 1815 62 [some (.ref 137), some (.int t), some (.int w), some (.int v), x4] [] (zS1, zrow m 138 W, yy) (.inl none) (zS1, zrow m 138 ((q_logsT W t w v)), yy) := by
  refine zeKn (c := 136) rfl rfl rfl ?_
  refine zeKn (c := 4) rfl rfl rfl ?_
  refine zeP rfl rfl ?_
  refine zeGR rfl rfl zS137 rfl rfl ?_
  refine zeKn (c := 15) rfl rfl rfl ?_
  refine zeWL (k := 15) rfl (by omega) ?_
  rw [hC]
  refine zeMul rfl ?_
  refine zeAdd rfl ?_
  refine zeP rfl rfl ?_
  refine zeP rfl rfl ?_
  refine zeGR rfl rfl zS137 rfl rfl ?_
  refine zeP rfl rfl ?_
  refine zeP rfl rfl ?_
  refine zeGR rfl rfl zS137 rfl rfl ?_
  refine zeKn (c := 11) rfl rfl rfl ?_
  refine zeWL (k := 11) rfl (by omega) ?_
  refine zeWS (k := (136 + (4 * (nv W 15)))) rfl (by omega) ?_
  refine zeP rfl rfl ?_
  refine zeGR rfl rfl zS137 rfl rfl ?_
  refine zeP rfl rfl ?_
  refine zeKn (c := 1) rfl rfl rfl ?_
  refine zeAdd rfl ?_
  refine zeP rfl rfl ?_
  refine zeWS (k := ((136 + (4 * (nv W 15))) + 1)) rfl (by omega) ?_
  refine zeP rfl rfl ?_
  refine zeGR rfl rfl zS137 rfl rfl ?_
  refine zeP rfl rfl ?_
  refine zeKn (c := 2) rfl rfl rfl ?_
  refine zeAdd rfl ?_
  refine zeP rfl rfl ?_
  refine zeWS (k := ((136 + (4 * (nv W 15))) + 2)) rfl (by omega) ?_
  refine zeP rfl rfl ?_
  refine zeGR rfl rfl zS137 rfl rfl ?_
  refine zeP rfl rfl ?_
  refine zeKn (c := 3) rfl rfl rfl ?_
  refine zeAdd rfl ?_
  refine zeP rfl rfl ?_
  refine zeWS (k := ((136 + (4 * (nv W 15))) + 3)) rfl (by omega) ?_
  refine zeP rfl rfl ?_
  refine zeGR rfl rfl zS137 rfl rfl ?_
  refine zeKn (c := 15) rfl rfl rfl ?_
  refine zeP rfl rfl ?_
  refine zeWL (k := 15) rfl (by omega) ?_
  refine zeKn (c := 1) rfl rfl rfl ?_
  refine zeP rfl rfl ?_
  refine zeWS (k := 15) rfl (by omega) ?_
  exact zeRe rfl rfl rfl rfl (by rfl) (by rfl)
noncomputable def l_logsL (t : Int32) (w : Int32) (v : Int32) : Nat → Nat → (Nat → Int32) → (Nat → Int32)
  | 0, k, W => (q_logsT ((upd W 15 ((W 15) - (Int32.ofNat 1)))) t w v)
  | n + 1, k, W => (l_logsL t w v n ((k + 1)) ((upd W (136 + k) (W (140 + k)))))
theorem w_logsL {σ : Nat → Nat × (Nat → Int32)} {yy : (Nat → Nat → Int64) × Bool × Nat × Nat} {m : Nat → Nat → Int32} {t : Int32} {w : Int32} {v : Int32} {d : Nat} (hd : 1 ≤ d + 1) : ∀ (n : Nat) (k : Nat) (W : Nat → Int32), k + n = 236 → W 15 = Int32.ofNat 60 → zEv σ (d + 1) 1815 15 [some (.ref 137), some (.int t), some (.int w), some (.int v), some (.int (Int32.ofNat k))] [] (zS1, zrow m 138 W, yy) (.inl none) (zS1, zrow m 138 ((l_logsL t w v n k W)), yy) := by
  intro n
  induction n with
  | zero =>
    intro k W hk h15
    refine zeP rfl rfl ?_
    refine zeKn (c := 236) rfl rfl rfl ?_
    refine zeT2 rfl rfl (zcge (by omega) (by omega) (by omega)) ?_
    refine zeP rfl rfl ?_
    refine zeGR rfl rfl zS137 rfl rfl ?_
    refine zeKn (c := 15) rfl rfl rfl ?_
    refine zeP rfl rfl ?_
    refine zeWL (k := 15) rfl (by omega) ?_
    refine zeKn (c := 1) rfl rfl rfl ?_
    refine zeP rfl rfl ?_
    refine zeWS (k := 15) rfl (by omega) ?_
    simp only [l_logsL, cond_true, cond_false]
    exact p_logsT (t := t) (w := w) (v := v) (x4 := some (.int (Int32.ofNat k))) (W := (upd W 15 ((W 15) - (Int32.ofNat 1)))) (m := m) (by omega) (zl60 h15).1 (zl60 h15).2
  | succ n ih =>
    intro k W hk h15
    refine zeP rfl rfl ?_
    refine zeKn (c := 236) rfl rfl rfl ?_
    refine zeF2 rfl rfl (zcge_f (by omega) (by omega) (by omega)) ?_
    refine zeP rfl rfl ?_
    refine zeGR rfl rfl zS137 rfl rfl ?_
    refine zeKn (c := 136) rfl rfl rfl ?_
    refine zeP rfl rfl ?_
    refine zeAdd rfl ?_
    refine zeP rfl rfl ?_
    refine zeGR rfl rfl zS137 rfl rfl ?_
    refine zeKn (c := 140) rfl rfl rfl ?_
    refine zeP rfl rfl ?_
    refine zeAdd rfl ?_
    refine zeWL (k := (140 + k)) rfl (by omega) ?_
    refine zeWS (k := (136 + k)) rfl (by omega) ?_
    refine zeInc rfl rfl ?_
    refine zeP rfl rfl ?_
    simp only [l_logsL, cond_true, cond_false]
    exact ih ((k + 1)) ((upd W (136 + k) (W (140 + k))))  (by omega) (by rw [upd_ne _ _ (by omega)]; exact h15)
noncomputable def q_logs (W : Nat → Int32) (t : Int32) (w : Int32) (v : Int32) : (Nat → Int32) := (bif zc2 .ne (W 15) (Int32.ofNat 60) then (q_logsT W t w v) else (l_logsL t w v 236 0 W))
theorem p_logs {σ : Nat → Nat × (Nat → Int32)} {yy : (Nat → Nat → Int64) × Bool × Nat × Nat} {m : Nat → Nat → Int32} {W : Nat → Int32} {t : Int32} {w : Int32} {v : Int32} {d : Nat} (hd : 1 ≤ d + 1) (hC : W 15 = Int32.ofNat (nv W 15)) (hC60 : nv W 15 ≤ 60) : zEv σ (d + 1) 1815 0 [some (.ref 137), some (.int t), some (.int w), some (.int v), none] [] (zS1, zrow m 138 W, yy) (.inl none) (zS1, zrow m 138 ((q_logs W t w v)), yy) := by
  refine zeP rfl rfl ?_
  refine zeGR rfl rfl zS137 rfl rfl ?_
  refine zeKn (c := 15) rfl rfl rfl ?_
  refine zeWL (k := 15) rfl (by omega) ?_
  refine zeKn (c := 60) rfl rfl rfl ?_
  refine zeB2 rfl rfl (fun h1 => ?_) (fun h1 => ?_)
  · simp only [q_logs, h1, cond_true, cond_false]
    exact p_logsT (t := t) (w := w) (v := v) (x4 := none) (W := W) (m := m) (by omega) hC (znelt (by omega) hC hC60 h1)
  · refine zeKn (c := 0) rfl rfl rfl ?_
    refine zeP rfl rfl ?_
    simp only [q_logs, h1, cond_true, cond_false]
    exact w_logsL (t := t) (w := w) (v := v) (m := m) (by omega)  236 (0) W  (by omega) (zeqn h1)
theorem c_logs {σ : Nat → Nat × (Nat → Int32)} {yy : (Nat → Nat → Int64) × Bool × Nat × Nat} {m : Nat → Nat → Int32} {W : Nat → Int32} {t : Int32} {w : Int32} {v : Int32} (hC : W 15 = Int32.ofNat (nv W 15)) (hC60 : nv W 15 ≤ 60) : zF σ 1 1815 [.ref 137, .int t, .int w, .int v] (zS1, zrow m 138 W, yy) (.inl none) (zS1, zrow m 138 ((q_logs W t w v)), yy) := by
  intro d hd
  obtain ⟨d, rfl⟩ : ∃ k, d = k + 1 := ⟨d - 1, by omega⟩
  exact p_logs hd hC hC60
noncomputable def q_falls (W : Nat → Int32) (t : Nat) (y : Nat) : (Nat → Int32) := (q_logs ((q_ends ((upd ((upd ((upd ((upd ((upd ((upd W (376 + 103 * t + 0) (q_of W t 18))) (376 + 103 * t + 1) (q_of ((upd W (376 + 103 * t + 0) (q_of W t 18))) t 19))) (376 + 103 * t + 21) (Int32.ofNat 0))) (376 + 103 * t + 3) ((((upd ((upd ((upd W (376 + 103 * t + 0) (q_of W t 18))) (376 + 103 * t + 1) (q_of ((upd W (376 + 103 * t + 0) (q_of W t 18))) t 19))) (376 + 103 * t + 21) (Int32.ofNat 0))) (376 + 103 * t + 3)) + (Int32.ofNat 1)))) (376 + 103 * t + ((5 + y))) ((((upd ((upd ((upd ((upd W (376 + 103 * t + 0) (q_of W t 18))) (376 + 103 * t + 1) (q_of ((upd W (376 + 103 * t + 0) (q_of W t 18))) t 19))) (376 + 103 * t + 21) (Int32.ofNat 0))) (376 + 103 * t + 3) ((((upd ((upd ((upd W (376 + 103 * t + 0) (q_of W t 18))) (376 + 103 * t + 1) (q_of ((upd W (376 + 103 * t + 0) (q_of W t 18))) t 19))) (376 + 103 * t + 21) (Int32.ofNat 0))) (376 + 103 * t + 3)) + (Int32.ofNat 1)))) (376 + 103 * t + ((5 + y)))) + (Int32.ofNat 1)))) (20 + (nv W (376 + 103 * t + 11))) (if (Int32.ofNat 0) < ((((upd ((upd ((upd ((upd ((upd W (376 + 103 * t + 0) (q_of W t 18))) (376 + 103 * t + 1) (q_of ((upd W (376 + 103 * t + 0) (q_of W t 18))) t 19))) (376 + 103 * t + 21) (Int32.ofNat 0))) (376 + 103 * t + 3) ((((upd ((upd ((upd W (376 + 103 * t + 0) (q_of W t 18))) (376 + 103 * t + 1) (q_of ((upd W (376 + 103 * t + 0) (q_of W t 18))) t 19))) (376 + 103 * t + 21) (Int32.ofNat 0))) (376 + 103 * t + 3)) + (Int32.ofNat 1)))) (376 + 103 * t + ((5 + y))) ((((upd ((upd ((upd ((upd W (376 + 103 * t + 0) (q_of W t 18))) (376 + 103 * t + 1) (q_of ((upd W (376 + 103 * t + 0) (q_of W t 18))) t 19))) (376 + 103 * t + 21) (Int32.ofNat 0))) (376 + 103 * t + 3) ((((upd ((upd ((upd W (376 + 103 * t + 0) (q_of W t 18))) (376 + 103 * t + 1) (q_of ((upd W (376 + 103 * t + 0) (q_of W t 18))) t 19))) (376 + 103 * t + 21) (Int32.ofNat 0))) (376 + 103 * t + 3)) + (Int32.ofNat 1)))) (376 + 103 * t + ((5 + y)))) + (Int32.ofNat 1)))) (20 + (nv W (376 + 103 * t + 11)))) - (((upd ((upd ((upd ((upd ((upd W (376 + 103 * t + 0) (q_of W t 18))) (376 + 103 * t + 1) (q_of ((upd W (376 + 103 * t + 0) (q_of W t 18))) t 19))) (376 + 103 * t + 21) (Int32.ofNat 0))) (376 + 103 * t + 3) ((((upd ((upd ((upd W (376 + 103 * t + 0) (q_of W t 18))) (376 + 103 * t + 1) (q_of ((upd W (376 + 103 * t + 0) (q_of W t 18))) t 19))) (376 + 103 * t + 21) (Int32.ofNat 0))) (376 + 103 * t + 3)) + (Int32.ofNat 1)))) (376 + 103 * t + ((5 + y))) ((((upd ((upd ((upd ((upd W (376 + 103 * t + 0) (q_of W t 18))) (376 + 103 * t + 1) (q_of ((upd W (376 + 103 * t + 0) (q_of W t 18))) t 19))) (376 + 103 * t + 21) (Int32.ofNat 0))) (376 + 103 * t + 3) ((((upd ((upd ((upd W (376 + 103 * t + 0) (q_of W t 18))) (376 + 103 * t + 1) (q_of ((upd W (376 + 103 * t + 0) (q_of W t 18))) t 19))) (376 + 103 * t + 21) (Int32.ofNat 0))) (376 + 103 * t + 3)) + (Int32.ofNat 1)))) (376 + 103 * t + ((5 + y)))) + (Int32.ofNat 1)))) 6)) then ((((upd ((upd ((upd ((upd ((upd W (376 + 103 * t + 0) (q_of W t 18))) (376 + 103 * t + 1) (q_of ((upd W (376 + 103 * t + 0) (q_of W t 18))) t 19))) (376 + 103 * t + 21) (Int32.ofNat 0))) (376 + 103 * t + 3) ((((upd ((upd ((upd W (376 + 103 * t + 0) (q_of W t 18))) (376 + 103 * t + 1) (q_of ((upd W (376 + 103 * t + 0) (q_of W t 18))) t 19))) (376 + 103 * t + 21) (Int32.ofNat 0))) (376 + 103 * t + 3)) + (Int32.ofNat 1)))) (376 + 103 * t + ((5 + y))) ((((upd ((upd ((upd ((upd W (376 + 103 * t + 0) (q_of W t 18))) (376 + 103 * t + 1) (q_of ((upd W (376 + 103 * t + 0) (q_of W t 18))) t 19))) (376 + 103 * t + 21) (Int32.ofNat 0))) (376 + 103 * t + 3) ((((upd ((upd ((upd W (376 + 103 * t + 0) (q_of W t 18))) (376 + 103 * t + 1) (q_of ((upd W (376 + 103 * t + 0) (q_of W t 18))) t 19))) (376 + 103 * t + 21) (Int32.ofNat 0))) (376 + 103 * t + 3)) + (Int32.ofNat 1)))) (376 + 103 * t + ((5 + y)))) + (Int32.ofNat 1)))) (20 + (nv W (376 + 103 * t + 11)))) - (((upd ((upd ((upd ((upd ((upd W (376 + 103 * t + 0) (q_of W t 18))) (376 + 103 * t + 1) (q_of ((upd W (376 + 103 * t + 0) (q_of W t 18))) t 19))) (376 + 103 * t + 21) (Int32.ofNat 0))) (376 + 103 * t + 3) ((((upd ((upd ((upd W (376 + 103 * t + 0) (q_of W t 18))) (376 + 103 * t + 1) (q_of ((upd W (376 + 103 * t + 0) (q_of W t 18))) t 19))) (376 + 103 * t + 21) (Int32.ofNat 0))) (376 + 103 * t + 3)) + (Int32.ofNat 1)))) (376 + 103 * t + ((5 + y))) ((((upd ((upd ((upd ((upd W (376 + 103 * t + 0) (q_of W t 18))) (376 + 103 * t + 1) (q_of ((upd W (376 + 103 * t + 0) (q_of W t 18))) t 19))) (376 + 103 * t + 21) (Int32.ofNat 0))) (376 + 103 * t + 3) ((((upd ((upd ((upd W (376 + 103 * t + 0) (q_of W t 18))) (376 + 103 * t + 1) (q_of ((upd W (376 + 103 * t + 0) (q_of W t 18))) t 19))) (376 + 103 * t + 21) (Int32.ofNat 0))) (376 + 103 * t + 3)) + (Int32.ofNat 1)))) (376 + 103 * t + ((5 + y)))) + (Int32.ofNat 1)))) 6)) else (Int32.ofNat 0)))) t)) ((Int32.ofNat t)) ((Int32.ofNat 2)) ((Int32.ofNat y)))
theorem p_falls {σ : Nat → Nat × (Nat → Int32)} {yy : (Nat → Nat → Int64) × Bool × Nat × Nat} {m : Nat → Nat → Int32} {W : Nat → Int32} {t : Nat} {y : Nat} {d : Nat} (hd : 3 ≤ d + 1) (ht : t < 4) (hy : y < 5) (hL : W (376 + 103 * t + 11) = Int32.ofNat (nv W (376 + 103 * t + 11))) (hL4 : nv W (376 + 103 * t + 11) < 4) (hC : W 15 = Int32.ofNat (nv W 15)) (hC60 : nv W 15 ≤ 60) : zEv σ (d + 1) 1817 0 [some (.ref 137), some (.int (Int32.ofNat t)), some (.int (Int32.ofNat y)), none] [] (zS1, zrow m 138 W, yy) (.inl none) (zS1, zrow m 138 ((q_falls W t y)), yy) := by
  refine zeP rfl rfl ?_
  refine zeP rfl rfl ?_
  refine zeKn (c := 11) rfl rfl rfl ?_
  refine zeCF rfl rfl rfl rfl rfl rfl (c_of (m := m) (W := W) (t := t) (k := 11) (by first | assumption | omega)) (by omega) ?_
  dsimp only [Option.toList, List.cons_append, List.nil_append]
  rw [show q_of W t 11 = Int32.ofNat (nv W (376 + 103 * t + 11)) from hL]
  refine zeP rfl rfl ?_
  refine zeP rfl rfl ?_
  refine zeGR rfl rfl zS137 rfl rfl ?_
  refine zeP rfl rfl ?_
  refine zeKn (c := 0) rfl rfl rfl ?_
  refine zeCF rfl rfl rfl rfl rfl rfl (c_at (m := m) (W := W) (t := t) (k := 0) ) (by omega) ?_
  dsimp only [Option.toList, List.cons_append, List.nil_append]
  refine zeP rfl rfl ?_
  refine zeP rfl rfl ?_
  refine zeKn (c := 18) rfl rfl rfl ?_
  refine zeCF rfl rfl rfl rfl rfl rfl (c_of (m := m) (W := W) (t := t) (k := 18) (by first | assumption | omega)) (by omega) ?_
  dsimp only [Option.toList, List.cons_append, List.nil_append]
  refine zeWS (k := (376 + 103 * t + 0)) rfl (by omega) ?_
  refine zeP rfl rfl ?_
  refine zeGR rfl rfl zS137 rfl rfl ?_
  refine zeP rfl rfl ?_
  refine zeKn (c := 1) rfl rfl rfl ?_
  refine zeCF rfl rfl rfl rfl rfl rfl (c_at (m := m) (W := (upd W (376 + 103 * t + 0) (q_of W t 18))) (t := t) (k := 1) ) (by omega) ?_
  dsimp only [Option.toList, List.cons_append, List.nil_append]
  refine zeP rfl rfl ?_
  refine zeP rfl rfl ?_
  refine zeKn (c := 19) rfl rfl rfl ?_
  refine zeCF rfl rfl rfl rfl rfl rfl (c_of (m := m) (W := (upd W (376 + 103 * t + 0) (q_of W t 18))) (t := t) (k := 19) (by first | assumption | omega)) (by omega) ?_
  dsimp only [Option.toList, List.cons_append, List.nil_append]
  refine zeWS (k := (376 + 103 * t + 1)) rfl (by omega) ?_
  refine zeP rfl rfl ?_
  refine zeGR rfl rfl zS137 rfl rfl ?_
  refine zeP rfl rfl ?_
  refine zeKn (c := 21) rfl rfl rfl ?_
  refine zeCF rfl rfl rfl rfl rfl rfl (c_at (m := m) (W := (upd ((upd W (376 + 103 * t + 0) (q_of W t 18))) (376 + 103 * t + 1) (q_of ((upd W (376 + 103 * t + 0) (q_of W t 18))) t 19))) (t := t) (k := 21) ) (by omega) ?_
  dsimp only [Option.toList, List.cons_append, List.nil_append]
  refine zeKn (c := 0) rfl rfl rfl ?_
  refine zeWS (k := (376 + 103 * t + 21)) rfl (by omega) ?_
  refine zeP rfl rfl ?_
  refine zeGR rfl rfl zS137 rfl rfl ?_
  refine zeP rfl rfl ?_
  refine zeKn (c := 3) rfl rfl rfl ?_
  refine zeCF rfl rfl rfl rfl rfl rfl (c_at (m := m) (W := (upd ((upd ((upd W (376 + 103 * t + 0) (q_of W t 18))) (376 + 103 * t + 1) (q_of ((upd W (376 + 103 * t + 0) (q_of W t 18))) t 19))) (376 + 103 * t + 21) (Int32.ofNat 0))) (t := t) (k := 3) ) (by omega) ?_
  dsimp only [Option.toList, List.cons_append, List.nil_append]
  refine zeP rfl rfl ?_
  refine zeWL (k := (376 + 103 * t + 3)) rfl (by omega) ?_
  refine zeKn (c := 1) rfl rfl rfl ?_
  refine zeP rfl rfl ?_
  refine zeWS (k := (376 + 103 * t + 3)) rfl (by omega) ?_
  refine zeP rfl rfl ?_
  refine zeGR rfl rfl zS137 rfl rfl ?_
  refine zeP rfl rfl ?_
  refine zeKn (c := 5) rfl rfl rfl ?_
  refine zeP rfl rfl ?_
  refine zeAdd rfl ?_
  refine zeCF rfl rfl rfl rfl rfl rfl (c_at (m := m) (W := (upd ((upd ((upd ((upd W (376 + 103 * t + 0) (q_of W t 18))) (376 + 103 * t + 1) (q_of ((upd W (376 + 103 * t + 0) (q_of W t 18))) t 19))) (376 + 103 * t + 21) (Int32.ofNat 0))) (376 + 103 * t + 3) ((((upd ((upd ((upd W (376 + 103 * t + 0) (q_of W t 18))) (376 + 103 * t + 1) (q_of ((upd W (376 + 103 * t + 0) (q_of W t 18))) t 19))) (376 + 103 * t + 21) (Int32.ofNat 0))) (376 + 103 * t + 3)) + (Int32.ofNat 1)))) (t := t) (k := (5 + y)) ) (by omega) ?_
  dsimp only [Option.toList, List.cons_append, List.nil_append]
  refine zeP rfl rfl ?_
  refine zeWL (k := (376 + 103 * t + ((5 + y)))) rfl (by omega) ?_
  refine zeKn (c := 1) rfl rfl rfl ?_
  refine zeP rfl rfl ?_
  refine zeWS (k := (376 + 103 * t + ((5 + y)))) rfl (by omega) ?_
  refine zeP rfl rfl ?_
  refine zeGR rfl rfl zS137 rfl rfl ?_
  refine zeKn (c := 20) rfl rfl rfl ?_
  refine zeP rfl rfl ?_
  refine zeAdd rfl ?_
  refine zeKn (c := 0) rfl rfl rfl ?_
  refine zeP rfl rfl ?_
  refine zeGR rfl rfl zS137 rfl rfl ?_
  refine zeKn (c := 20) rfl rfl rfl ?_
  refine zeP rfl rfl ?_
  refine zeAdd rfl ?_
  refine zeWL (k := (20 + (nv W (376 + 103 * t + 11)))) rfl (by omega) ?_
  refine zeP rfl rfl ?_
  refine zeGR rfl rfl zS137 rfl rfl ?_
  refine zeKn (c := 6) rfl rfl rfl ?_
  refine zeWL (k := 6) rfl (by omega) ?_
  refine zeP rfl rfl ?_
  refine zeM rfl rfl rfl rfl rfl rfl rfl ?_
  refine zeWS (k := (20 + (nv W (376 + 103 * t + 11)))) rfl (by omega) ?_
  refine zeP rfl rfl ?_
  refine zeP rfl rfl ?_
  refine zeCF rfl rfl rfl rfl rfl rfl (c_ends (m := m) (W := (upd ((upd ((upd ((upd ((upd ((upd W (376 + 103 * t + 0) (q_of W t 18))) (376 + 103 * t + 1) (q_of ((upd W (376 + 103 * t + 0) (q_of W t 18))) t 19))) (376 + 103 * t + 21) (Int32.ofNat 0))) (376 + 103 * t + 3) ((((upd ((upd ((upd W (376 + 103 * t + 0) (q_of W t 18))) (376 + 103 * t + 1) (q_of ((upd W (376 + 103 * t + 0) (q_of W t 18))) t 19))) (376 + 103 * t + 21) (Int32.ofNat 0))) (376 + 103 * t + 3)) + (Int32.ofNat 1)))) (376 + 103 * t + ((5 + y))) ((((upd ((upd ((upd ((upd W (376 + 103 * t + 0) (q_of W t 18))) (376 + 103 * t + 1) (q_of ((upd W (376 + 103 * t + 0) (q_of W t 18))) t 19))) (376 + 103 * t + 21) (Int32.ofNat 0))) (376 + 103 * t + 3) ((((upd ((upd ((upd W (376 + 103 * t + 0) (q_of W t 18))) (376 + 103 * t + 1) (q_of ((upd W (376 + 103 * t + 0) (q_of W t 18))) t 19))) (376 + 103 * t + 21) (Int32.ofNat 0))) (376 + 103 * t + 3)) + (Int32.ofNat 1)))) (376 + 103 * t + ((5 + y)))) + (Int32.ofNat 1)))) (20 + (nv W (376 + 103 * t + 11))) (if (Int32.ofNat 0) < ((((upd ((upd ((upd ((upd ((upd W (376 + 103 * t + 0) (q_of W t 18))) (376 + 103 * t + 1) (q_of ((upd W (376 + 103 * t + 0) (q_of W t 18))) t 19))) (376 + 103 * t + 21) (Int32.ofNat 0))) (376 + 103 * t + 3) ((((upd ((upd ((upd W (376 + 103 * t + 0) (q_of W t 18))) (376 + 103 * t + 1) (q_of ((upd W (376 + 103 * t + 0) (q_of W t 18))) t 19))) (376 + 103 * t + 21) (Int32.ofNat 0))) (376 + 103 * t + 3)) + (Int32.ofNat 1)))) (376 + 103 * t + ((5 + y))) ((((upd ((upd ((upd ((upd W (376 + 103 * t + 0) (q_of W t 18))) (376 + 103 * t + 1) (q_of ((upd W (376 + 103 * t + 0) (q_of W t 18))) t 19))) (376 + 103 * t + 21) (Int32.ofNat 0))) (376 + 103 * t + 3) ((((upd ((upd ((upd W (376 + 103 * t + 0) (q_of W t 18))) (376 + 103 * t + 1) (q_of ((upd W (376 + 103 * t + 0) (q_of W t 18))) t 19))) (376 + 103 * t + 21) (Int32.ofNat 0))) (376 + 103 * t + 3)) + (Int32.ofNat 1)))) (376 + 103 * t + ((5 + y)))) + (Int32.ofNat 1)))) (20 + (nv W (376 + 103 * t + 11)))) - (((upd ((upd ((upd ((upd ((upd W (376 + 103 * t + 0) (q_of W t 18))) (376 + 103 * t + 1) (q_of ((upd W (376 + 103 * t + 0) (q_of W t 18))) t 19))) (376 + 103 * t + 21) (Int32.ofNat 0))) (376 + 103 * t + 3) ((((upd ((upd ((upd W (376 + 103 * t + 0) (q_of W t 18))) (376 + 103 * t + 1) (q_of ((upd W (376 + 103 * t + 0) (q_of W t 18))) t 19))) (376 + 103 * t + 21) (Int32.ofNat 0))) (376 + 103 * t + 3)) + (Int32.ofNat 1)))) (376 + 103 * t + ((5 + y))) ((((upd ((upd ((upd ((upd W (376 + 103 * t + 0) (q_of W t 18))) (376 + 103 * t + 1) (q_of ((upd W (376 + 103 * t + 0) (q_of W t 18))) t 19))) (376 + 103 * t + 21) (Int32.ofNat 0))) (376 + 103 * t + 3) ((((upd ((upd ((upd W (376 + 103 * t + 0) (q_of W t 18))) (376 + 103 * t + 1) (q_of ((upd W (376 + 103 * t + 0) (q_of W t 18))) t 19))) (376 + 103 * t + 21) (Int32.ofNat 0))) (376 + 103 * t + 3)) + (Int32.ofNat 1)))) (376 + 103 * t + ((5 + y)))) + (Int32.ofNat 1)))) 6)) then ((((upd ((upd ((upd ((upd ((upd W (376 + 103 * t + 0) (q_of W t 18))) (376 + 103 * t + 1) (q_of ((upd W (376 + 103 * t + 0) (q_of W t 18))) t 19))) (376 + 103 * t + 21) (Int32.ofNat 0))) (376 + 103 * t + 3) ((((upd ((upd ((upd W (376 + 103 * t + 0) (q_of W t 18))) (376 + 103 * t + 1) (q_of ((upd W (376 + 103 * t + 0) (q_of W t 18))) t 19))) (376 + 103 * t + 21) (Int32.ofNat 0))) (376 + 103 * t + 3)) + (Int32.ofNat 1)))) (376 + 103 * t + ((5 + y))) ((((upd ((upd ((upd ((upd W (376 + 103 * t + 0) (q_of W t 18))) (376 + 103 * t + 1) (q_of ((upd W (376 + 103 * t + 0) (q_of W t 18))) t 19))) (376 + 103 * t + 21) (Int32.ofNat 0))) (376 + 103 * t + 3) ((((upd ((upd ((upd W (376 + 103 * t + 0) (q_of W t 18))) (376 + 103 * t + 1) (q_of ((upd W (376 + 103 * t + 0) (q_of W t 18))) t 19))) (376 + 103 * t + 21) (Int32.ofNat 0))) (376 + 103 * t + 3)) + (Int32.ofNat 1)))) (376 + 103 * t + ((5 + y)))) + (Int32.ofNat 1)))) (20 + (nv W (376 + 103 * t + 11)))) - (((upd ((upd ((upd ((upd ((upd W (376 + 103 * t + 0) (q_of W t 18))) (376 + 103 * t + 1) (q_of ((upd W (376 + 103 * t + 0) (q_of W t 18))) t 19))) (376 + 103 * t + 21) (Int32.ofNat 0))) (376 + 103 * t + 3) ((((upd ((upd ((upd W (376 + 103 * t + 0) (q_of W t 18))) (376 + 103 * t + 1) (q_of ((upd W (376 + 103 * t + 0) (q_of W t 18))) t 19))) (376 + 103 * t + 21) (Int32.ofNat 0))) (376 + 103 * t + 3)) + (Int32.ofNat 1)))) (376 + 103 * t + ((5 + y))) ((((upd ((upd ((upd ((upd W (376 + 103 * t + 0) (q_of W t 18))) (376 + 103 * t + 1) (q_of ((upd W (376 + 103 * t + 0) (q_of W t 18))) t 19))) (376 + 103 * t + 21) (Int32.ofNat 0))) (376 + 103 * t + 3) ((((upd ((upd ((upd W (376 + 103 * t + 0) (q_of W t 18))) (376 + 103 * t + 1) (q_of ((upd W (376 + 103 * t + 0) (q_of W t 18))) t 19))) (376 + 103 * t + 21) (Int32.ofNat 0))) (376 + 103 * t + 3)) + (Int32.ofNat 1)))) (376 + 103 * t + ((5 + y)))) + (Int32.ofNat 1)))) 6)) else (Int32.ofNat 0)))) (t := t) (by first | assumption | omega)) (by omega) ?_
  dsimp only [Option.toList, List.cons_append, List.nil_append]
  refine zeP rfl rfl ?_
  refine zeP rfl rfl ?_
  refine zeKn (c := 2) rfl rfl rfl ?_
  refine zeP rfl rfl ?_
  refine zeCF rfl rfl rfl rfl rfl rfl (c_logs (m := m) (W := (q_ends ((upd ((upd ((upd ((upd ((upd ((upd W (376 + 103 * t + 0) (q_of W t 18))) (376 + 103 * t + 1) (q_of ((upd W (376 + 103 * t + 0) (q_of W t 18))) t 19))) (376 + 103 * t + 21) (Int32.ofNat 0))) (376 + 103 * t + 3) ((((upd ((upd ((upd W (376 + 103 * t + 0) (q_of W t 18))) (376 + 103 * t + 1) (q_of ((upd W (376 + 103 * t + 0) (q_of W t 18))) t 19))) (376 + 103 * t + 21) (Int32.ofNat 0))) (376 + 103 * t + 3)) + (Int32.ofNat 1)))) (376 + 103 * t + ((5 + y))) ((((upd ((upd ((upd ((upd W (376 + 103 * t + 0) (q_of W t 18))) (376 + 103 * t + 1) (q_of ((upd W (376 + 103 * t + 0) (q_of W t 18))) t 19))) (376 + 103 * t + 21) (Int32.ofNat 0))) (376 + 103 * t + 3) ((((upd ((upd ((upd W (376 + 103 * t + 0) (q_of W t 18))) (376 + 103 * t + 1) (q_of ((upd W (376 + 103 * t + 0) (q_of W t 18))) t 19))) (376 + 103 * t + 21) (Int32.ofNat 0))) (376 + 103 * t + 3)) + (Int32.ofNat 1)))) (376 + 103 * t + ((5 + y)))) + (Int32.ofNat 1)))) (20 + (nv W (376 + 103 * t + 11))) (if (Int32.ofNat 0) < ((((upd ((upd ((upd ((upd ((upd W (376 + 103 * t + 0) (q_of W t 18))) (376 + 103 * t + 1) (q_of ((upd W (376 + 103 * t + 0) (q_of W t 18))) t 19))) (376 + 103 * t + 21) (Int32.ofNat 0))) (376 + 103 * t + 3) ((((upd ((upd ((upd W (376 + 103 * t + 0) (q_of W t 18))) (376 + 103 * t + 1) (q_of ((upd W (376 + 103 * t + 0) (q_of W t 18))) t 19))) (376 + 103 * t + 21) (Int32.ofNat 0))) (376 + 103 * t + 3)) + (Int32.ofNat 1)))) (376 + 103 * t + ((5 + y))) ((((upd ((upd ((upd ((upd W (376 + 103 * t + 0) (q_of W t 18))) (376 + 103 * t + 1) (q_of ((upd W (376 + 103 * t + 0) (q_of W t 18))) t 19))) (376 + 103 * t + 21) (Int32.ofNat 0))) (376 + 103 * t + 3) ((((upd ((upd ((upd W (376 + 103 * t + 0) (q_of W t 18))) (376 + 103 * t + 1) (q_of ((upd W (376 + 103 * t + 0) (q_of W t 18))) t 19))) (376 + 103 * t + 21) (Int32.ofNat 0))) (376 + 103 * t + 3)) + (Int32.ofNat 1)))) (376 + 103 * t + ((5 + y)))) + (Int32.ofNat 1)))) (20 + (nv W (376 + 103 * t + 11)))) - (((upd ((upd ((upd ((upd ((upd W (376 + 103 * t + 0) (q_of W t 18))) (376 + 103 * t + 1) (q_of ((upd W (376 + 103 * t + 0) (q_of W t 18))) t 19))) (376 + 103 * t + 21) (Int32.ofNat 0))) (376 + 103 * t + 3) ((((upd ((upd ((upd W (376 + 103 * t + 0) (q_of W t 18))) (376 + 103 * t + 1) (q_of ((upd W (376 + 103 * t + 0) (q_of W t 18))) t 19))) (376 + 103 * t + 21) (Int32.ofNat 0))) (376 + 103 * t + 3)) + (Int32.ofNat 1)))) (376 + 103 * t + ((5 + y))) ((((upd ((upd ((upd ((upd W (376 + 103 * t + 0) (q_of W t 18))) (376 + 103 * t + 1) (q_of ((upd W (376 + 103 * t + 0) (q_of W t 18))) t 19))) (376 + 103 * t + 21) (Int32.ofNat 0))) (376 + 103 * t + 3) ((((upd ((upd ((upd W (376 + 103 * t + 0) (q_of W t 18))) (376 + 103 * t + 1) (q_of ((upd W (376 + 103 * t + 0) (q_of W t 18))) t 19))) (376 + 103 * t + 21) (Int32.ofNat 0))) (376 + 103 * t + 3)) + (Int32.ofNat 1)))) (376 + 103 * t + ((5 + y)))) + (Int32.ofNat 1)))) 6)) then ((((upd ((upd ((upd ((upd ((upd W (376 + 103 * t + 0) (q_of W t 18))) (376 + 103 * t + 1) (q_of ((upd W (376 + 103 * t + 0) (q_of W t 18))) t 19))) (376 + 103 * t + 21) (Int32.ofNat 0))) (376 + 103 * t + 3) ((((upd ((upd ((upd W (376 + 103 * t + 0) (q_of W t 18))) (376 + 103 * t + 1) (q_of ((upd W (376 + 103 * t + 0) (q_of W t 18))) t 19))) (376 + 103 * t + 21) (Int32.ofNat 0))) (376 + 103 * t + 3)) + (Int32.ofNat 1)))) (376 + 103 * t + ((5 + y))) ((((upd ((upd ((upd ((upd W (376 + 103 * t + 0) (q_of W t 18))) (376 + 103 * t + 1) (q_of ((upd W (376 + 103 * t + 0) (q_of W t 18))) t 19))) (376 + 103 * t + 21) (Int32.ofNat 0))) (376 + 103 * t + 3) ((((upd ((upd ((upd W (376 + 103 * t + 0) (q_of W t 18))) (376 + 103 * t + 1) (q_of ((upd W (376 + 103 * t + 0) (q_of W t 18))) t 19))) (376 + 103 * t + 21) (Int32.ofNat 0))) (376 + 103 * t + 3)) + (Int32.ofNat 1)))) (376 + 103 * t + ((5 + y)))) + (Int32.ofNat 1)))) (20 + (nv W (376 + 103 * t + 11)))) - (((upd ((upd ((upd ((upd ((upd W (376 + 103 * t + 0) (q_of W t 18))) (376 + 103 * t + 1) (q_of ((upd W (376 + 103 * t + 0) (q_of W t 18))) t 19))) (376 + 103 * t + 21) (Int32.ofNat 0))) (376 + 103 * t + 3) ((((upd ((upd ((upd W (376 + 103 * t + 0) (q_of W t 18))) (376 + 103 * t + 1) (q_of ((upd W (376 + 103 * t + 0) (q_of W t 18))) t 19))) (376 + 103 * t + 21) (Int32.ofNat 0))) (376 + 103 * t + 3)) + (Int32.ofNat 1)))) (376 + 103 * t + ((5 + y))) ((((upd ((upd ((upd ((upd W (376 + 103 * t + 0) (q_of W t 18))) (376 + 103 * t + 1) (q_of ((upd W (376 + 103 * t + 0) (q_of W t 18))) t 19))) (376 + 103 * t + 21) (Int32.ofNat 0))) (376 + 103 * t + 3) ((((upd ((upd ((upd W (376 + 103 * t + 0) (q_of W t 18))) (376 + 103 * t + 1) (q_of ((upd W (376 + 103 * t + 0) (q_of W t 18))) t 19))) (376 + 103 * t + 21) (Int32.ofNat 0))) (376 + 103 * t + 3)) + (Int32.ofNat 1)))) (376 + 103 * t + ((5 + y)))) + (Int32.ofNat 1)))) 6)) else (Int32.ofNat 0)))) t)) (t := (Int32.ofNat t)) (w := (Int32.ofNat 2)) (v := (Int32.ofNat y)) (by simp (disch := omega) only [nv, q_ends, upd_ne]; first | exact hC | exact hC60) (by simp (disch := omega) only [nv, q_ends, upd_ne]; first | exact hC | exact hC60)) (by omega) ?_
  dsimp only [Option.toList, List.cons_append, List.nil_append]
  exact zeRe rfl rfl rfl rfl (by rfl) (by rfl)
theorem c_falls {σ : Nat → Nat × (Nat → Int32)} {yy : (Nat → Nat → Int64) × Bool × Nat × Nat} {m : Nat → Nat → Int32} {W : Nat → Int32} {t : Nat} {y : Nat} (ht : t < 4) (hy : y < 5) (hL : W (376 + 103 * t + 11) = Int32.ofNat (nv W (376 + 103 * t + 11))) (hL4 : nv W (376 + 103 * t + 11) < 4) (hC : W 15 = Int32.ofNat (nv W 15)) (hC60 : nv W 15 ≤ 60) : zF σ 3 1817 [.ref 137, .int (Int32.ofNat t), .int (Int32.ofNat y)] (zS1, zrow m 138 W, yy) (.inl none) (zS1, zrow m 138 ((q_falls W t y)), yy) := by
  intro d hd
  obtain ⟨d, rfl⟩ : ∃ k, d = k + 1 := ⟨d - 1, by omega⟩
  exact p_falls hd ht hy hL hL4 hC hC60
end
section
noncomputable def q_itFalls (m : Nat → Nat → Int32) (W : Nat → Int32) (t : Nat) (y : Nat) : (Nat → Int32) × (Nat → Nat → Int32) := ((q_falls W t y), (zm2 m 137 5 (Int32.ofNat 1)))
theorem p_itFalls {σ : Nat → Nat × (Nat → Int32)} {yy : (Nat → Nat → Int64) × Bool × Nat × Nat} {m : Nat → Nat → Int32} {W : Nat → Int32} {t : Nat} {y : Nat} {d : Nat} (hd : 4 ≤ d + 1) (ht : t < 4) (hy : y < 5) (hL : W (376 + 103 * t + 11) = Int32.ofNat (nv W (376 + 103 * t + 11))) (hL4 : nv W (376 + 103 * t + 11) < 4) (hC : W 15 = Int32.ofNat (nv W 15)) (hC60 : nv W 15 ≤ 60) : zEv σ (d + 1) 1818 0 [some (.ref 137), some (.int (Int32.ofNat t)), some (.int (Int32.ofNat y))] [] (zS1, zrow m 138 W, yy) (.inl none) (zS1, zrow ((q_itFalls m W t y).2) 138 ((q_itFalls m W t y).1), yy) := by
  refine zeP rfl rfl ?_
  refine zeP rfl rfl ?_
  refine zeP rfl rfl ?_
  refine zeCF rfl rfl rfl rfl rfl rfl (c_falls (m := m) (W := W) (t := t) (y := y) ht hy hL hL4 hC hC60) (by omega) ?_
  dsimp only [Option.toList, List.cons_append, List.nil_append]
  refine zeP rfl rfl ?_
  refine zeKn (c := 1) rfl rfl rfl ?_
  refine zeFB rfl rfl rfl (by decide) ?_
  exact zeRe rfl rfl rfl rfl (by rfl) (by rfl)
theorem c_itFalls {σ : Nat → Nat × (Nat → Int32)} {yy : (Nat → Nat → Int64) × Bool × Nat × Nat} {m : Nat → Nat → Int32} {W : Nat → Int32} {t : Nat} {y : Nat} (ht : t < 4) (hy : y < 5) (hL : W (376 + 103 * t + 11) = Int32.ofNat (nv W (376 + 103 * t + 11))) (hL4 : nv W (376 + 103 * t + 11) < 4) (hC : W 15 = Int32.ofNat (nv W 15)) (hC60 : nv W 15 ≤ 60) : zF σ 4 1818 [.ref 137, .int (Int32.ofNat t), .int (Int32.ofNat y)] (zS1, zrow m 138 W, yy) (.inl none) (zS1, zrow ((q_itFalls m W t y).2) 138 ((q_itFalls m W t y).1), yy) := by
  intro d hd
  obtain ⟨d, rfl⟩ : ∃ k, d = k + 1 := ⟨d - 1, by omega⟩
  exact p_itFalls hd ht hy hL hL4 hC hC60
noncomputable def l_clash (W : Nat → Int32) (t : Int32) (b : Int32) (r : Int32) : Nat → Int32 → Nat → Int32
  | 0, s, k => s
  | n + 1, s, k => (bif zc1 .eq r then (bif zc2 .eq (Int32.ofNat k) t then (l_clash W t b r n ((s ||| (Int32.ofNat 0))) ((k + 1))) else (bif zc1 .eq (((q_of W k 16) ||| (Int32.ofNat 0)) &&& b) then (l_clash W t b r n ((s ||| (Int32.ofNat 0))) ((k + 1))) else (l_clash W t b r n ((s ||| ((Int32.ofNat 1) <<< ((Int32.ofNat k) &&& 31)))) ((k + 1))))) else (bif zc2 .eq (Int32.ofNat k) t then (l_clash W t b r n ((s ||| (Int32.ofNat 0))) ((k + 1))) else (bif zc1 .eq (((q_of W k 16) ||| (q_of W k 15)) &&& b) then (l_clash W t b r n ((s ||| (Int32.ofNat 0))) ((k + 1))) else (l_clash W t b r n ((s ||| ((Int32.ofNat 1) <<< ((Int32.ofNat k) &&& 31)))) ((k + 1))))))
theorem w_clash {σ : Nat → Nat × (Nat → Int32)} {yy : (Nat → Nat → Int64) × Bool × Nat × Nat} {m : Nat → Nat → Int32} {W : Nat → Int32} {t : Int32} {b : Int32} {r : Int32} {d : Nat} (hd : 3 ≤ d + 1) (hN : W 9 = Int32.ofNat (nv W 9)) (hN4 : nv W 9 ≤ 4) : ∀ (n : Nat) (s : Int32) (k : Nat) (x6 : Option Value), k + n = nv W 9 → zEv σ (d + 1) 1819 6 [some (.ref 137), some (.int t), some (.int b), some (.int r), some (.int s), some (.int (Int32.ofNat k)), x6] [] (zS1, zrow m 138 W, yy) (.inl (some (.int (l_clash W t b r n s k)))) (zS1, zrow m 138 W, yy) := by
  intro n
  induction n with
  | zero =>
    intro s k x6 hk
    refine zeP rfl rfl ?_
    refine zeP rfl rfl ?_
    refine zeCF rfl rfl rfl rfl rfl rfl (c_threads (m := m) (W := W)  ) (by omega) ?_
    dsimp only [Option.toList, List.cons_append, List.nil_append]
    rw [show q_threads W = Int32.ofNat (nv W 9) from hN]
    refine zeT2 rfl rfl (zcge (by omega) (by omega) (by omega)) ?_
    refine zeP rfl rfl ?_
    exact zeRe rfl rfl rfl rfl (by rfl) (by rfl)
  | succ n ih =>
    intro s k x6 hk
    refine zeP rfl rfl ?_
    refine zeP rfl rfl ?_
    refine zeCF rfl rfl rfl rfl rfl rfl (c_threads (m := m) (W := W)  ) (by omega) ?_
    dsimp only [Option.toList, List.cons_append, List.nil_append]
    rw [show q_threads W = Int32.ofNat (nv W 9) from hN]
    refine zeF2 rfl rfl (zcge_f (by omega) (by omega) (by omega)) ?_
    refine zeP rfl rfl ?_
    refine zeP rfl rfl ?_
    refine zeKn (c := 16) rfl rfl rfl ?_
    refine zeCF rfl rfl rfl rfl rfl rfl (c_of (m := m) (W := W) (t := k) (k := 16) (by first | assumption | omega)) (by omega) ?_
    dsimp only [Option.toList, List.cons_append, List.nil_append]
    refine zeP rfl rfl ?_
    refine zeB1 rfl rfl (fun h1 => ?_) (fun h1 => ?_)
    · refine zeKn (c := 0) rfl rfl rfl ?_
      refine zeP rfl rfl ?_
      refine zeP rfl rfl ?_
      refine zeP rfl rfl ?_
      refine zeP rfl rfl ?_
      refine zeP rfl rfl ?_
      refine zeB2 rfl rfl (fun h2 => ?_) (fun h2 => ?_)
      · refine zeKn (c := 0) rfl rfl rfl ?_
        refine zeP rfl rfl ?_
        refine zeP rfl rfl ?_
        refine zeInc rfl rfl ?_
        refine zeP rfl rfl ?_
        simp only [l_clash, h1, h2, cond_true, cond_false]
        exact ih ((s ||| (Int32.ofNat 0))) ((k + 1)) (some (.int ((q_of W k 16) ||| (Int32.ofNat 0))))   (by omega) 
      · refine zeP rfl rfl ?_
        refine zeP rfl rfl ?_
        refine zeP rfl rfl ?_
        refine zeB1 rfl rfl (fun h3 => ?_) (fun h3 => ?_)
        · refine zeKn (c := 0) rfl rfl rfl ?_
          refine zeP rfl rfl ?_
          refine zeP rfl rfl ?_
          refine zeInc rfl rfl ?_
          refine zeP rfl rfl ?_
          simp only [l_clash, h1, h2, h3, cond_true, cond_false]
          exact ih ((s ||| (Int32.ofNat 0))) ((k + 1)) (some (.int ((q_of W k 16) ||| (Int32.ofNat 0))))   (by omega) 
        · refine zeKn (c := 1) rfl rfl rfl ?_
          refine zeP rfl rfl ?_
          refine zeP rfl rfl ?_
          refine zeP rfl rfl ?_
          refine zeP rfl rfl ?_
          refine zeP rfl rfl ?_
          refine zeInc rfl rfl ?_
          refine zeP rfl rfl ?_
          simp only [l_clash, h1, h2, h3, cond_true, cond_false]
          exact ih ((s ||| ((Int32.ofNat 1) <<< ((Int32.ofNat k) &&& 31)))) ((k + 1)) (some (.int ((q_of W k 16) ||| (Int32.ofNat 0))))   (by omega) 
    · refine zeP rfl rfl ?_
      refine zeP rfl rfl ?_
      refine zeKn (c := 15) rfl rfl rfl ?_
      refine zeCF rfl rfl rfl rfl rfl rfl (c_of (m := m) (W := W) (t := k) (k := 15) (by first | assumption | omega)) (by omega) ?_
      dsimp only [Option.toList, List.cons_append, List.nil_append]
      refine zeP rfl rfl ?_
      refine zeP rfl rfl ?_
      refine zeP rfl rfl ?_
      refine zeP rfl rfl ?_
      refine zeP rfl rfl ?_
      refine zeP rfl rfl ?_
      refine zeB2 rfl rfl (fun h4 => ?_) (fun h4 => ?_)
      · refine zeKn (c := 0) rfl rfl rfl ?_
        refine zeP rfl rfl ?_
        refine zeP rfl rfl ?_
        refine zeInc rfl rfl ?_
        refine zeP rfl rfl ?_
        simp only [l_clash, h1, h4, cond_true, cond_false]
        exact ih ((s ||| (Int32.ofNat 0))) ((k + 1)) (some (.int ((q_of W k 16) ||| (q_of W k 15))))   (by omega) 
      · refine zeP rfl rfl ?_
        refine zeP rfl rfl ?_
        refine zeP rfl rfl ?_
        refine zeB1 rfl rfl (fun h5 => ?_) (fun h5 => ?_)
        · refine zeKn (c := 0) rfl rfl rfl ?_
          refine zeP rfl rfl ?_
          refine zeP rfl rfl ?_
          refine zeInc rfl rfl ?_
          refine zeP rfl rfl ?_
          simp only [l_clash, h1, h4, h5, cond_true, cond_false]
          exact ih ((s ||| (Int32.ofNat 0))) ((k + 1)) (some (.int ((q_of W k 16) ||| (q_of W k 15))))   (by omega) 
        · refine zeKn (c := 1) rfl rfl rfl ?_
          refine zeP rfl rfl ?_
          refine zeP rfl rfl ?_
          refine zeP rfl rfl ?_
          refine zeP rfl rfl ?_
          refine zeP rfl rfl ?_
          refine zeInc rfl rfl ?_
          refine zeP rfl rfl ?_
          simp only [l_clash, h1, h4, h5, cond_true, cond_false]
          exact ih ((s ||| ((Int32.ofNat 1) <<< ((Int32.ofNat k) &&& 31)))) ((k + 1)) (some (.int ((q_of W k 16) ||| (q_of W k 15))))   (by omega) 
noncomputable def q_clash (W : Nat → Int32) (t : Int32) (b : Int32) (r : Int32) : Int32 := (l_clash W t b r ((nv W 9)) ((Int32.ofNat 0)) 0)
theorem p_clash {σ : Nat → Nat × (Nat → Int32)} {yy : (Nat → Nat → Int64) × Bool × Nat × Nat} {m : Nat → Nat → Int32} {W : Nat → Int32} {t : Int32} {b : Int32} {r : Int32} {d : Nat} (hd : 3 ≤ d + 1) (hN : W 9 = Int32.ofNat (nv W 9)) (hN4 : nv W 9 ≤ 4) : zEv σ (d + 1) 1819 0 [some (.ref 137), some (.int t), some (.int b), some (.int r), none, none, none] [] (zS1, zrow m 138 W, yy) (.inl (some (.int (q_clash W t b r)))) (zS1, zrow m 138 W, yy) := by
  refine zeKn (c := 0) rfl rfl rfl ?_
  refine zeP rfl rfl ?_
  refine zeKn (c := 0) rfl rfl rfl ?_
  refine zeP rfl rfl ?_
  simp only [q_clash, cond_true, cond_false]
  exact w_clash (t := t) (b := b) (r := r) (W := W) (m := m) (by omega) (by first | assumption | omega) (by first | assumption | omega) ((nv W 9)) ((Int32.ofNat 0)) (0) (none)   (by omega) 
theorem c_clash {σ : Nat → Nat × (Nat → Int32)} {yy : (Nat → Nat → Int64) × Bool × Nat × Nat} {m : Nat → Nat → Int32} {W : Nat → Int32} {t : Int32} {b : Int32} {r : Int32} (hN : W 9 = Int32.ofNat (nv W 9)) (hN4 : nv W 9 ≤ 4) : zF σ 3 1819 [.ref 137, .int t, .int b, .int r] (zS1, zrow m 138 W, yy) (.inl (some (.int (q_clash W t b r)))) (zS1, zrow m 138 W, yy) := by
  intro d hd
  obtain ⟨d, rfl⟩ : ∃ k, d = k + 1 := ⟨d - 1, by omega⟩
  exact p_clash hd hN hN4
noncomputable def l_yields (W : Nat → Int32) (t : Nat) (s : Int32) : Nat → Int32 → Nat → Int32
  | 0, b, k => (bif zc1 .eq b then (Int32.ofNat 0) else (bif zc2 .ne (q_of W t 2) (Int32.ofNat 1) then (Int32.ofNat 0) else (bif zc2 .ne (W 8) (Int32.ofNat 1) then (Int32.ofNat 0) else (Int32.ofNat 1))))
  | n + 1, b, k => (bif zc1 .ne b then (l_yields W t s n ((Int32.ofNat 1)) ((k + 1))) else (bif zc1 .eq (q_holds s k) then (l_yields W t s n ((Int32.ofNat 0)) ((k + 1))) else (bif zc2 .ge (q_of W k 20) (q_of W t 20) then (l_yields W t s n ((Int32.ofNat 0)) ((k + 1))) else (l_yields W t s n ((Int32.ofNat 1)) ((k + 1))))))
theorem w_yields {σ : Nat → Nat × (Nat → Int32)} {yy : (Nat → Nat → Int64) × Bool × Nat × Nat} {m : Nat → Nat → Int32} {W : Nat → Int32} {t : Nat} {s : Int32} {d : Nat} (hd : 3 ≤ d + 1) (hN : W 9 = Int32.ofNat (nv W 9)) (hN4 : nv W 9 ≤ 4) (ht : t < 4) : ∀ (n : Nat) (b : Int32) (k : Nat), k + n = nv W 9 → zEv σ (d + 1) 1820 5 [some (.ref 137), some (.int (Int32.ofNat t)), some (.int s), some (.int b), some (.int (Int32.ofNat k))] [] (zS1, zrow m 138 W, yy) (.inl (some (.int (l_yields W t s n b k)))) (zS1, zrow m 138 W, yy) := by
  intro n
  induction n with
  | zero =>
    intro b k hk
    refine zeP rfl rfl ?_
    refine zeP rfl rfl ?_
    refine zeCF rfl rfl rfl rfl rfl rfl (c_threads (m := m) (W := W)  ) (by omega) ?_
    dsimp only [Option.toList, List.cons_append, List.nil_append]
    rw [show q_threads W = Int32.ofNat (nv W 9) from hN]
    refine zeT2 rfl rfl (zcge (by omega) (by omega) (by omega)) ?_
    refine zeP rfl rfl ?_
    refine zeB1 rfl rfl (fun h1 => ?_) (fun h1 => ?_)
    · refine zeKn (c := 0) rfl rfl rfl ?_
      exact zeRe rfl rfl rfl rfl (by simp only [l_yields, h1, cond_true, cond_false] <;> rfl) (by simp only [l_yields, h1, cond_true, cond_false] <;> rfl)
    · refine zeP rfl rfl ?_
      refine zeP rfl rfl ?_
      refine zeKn (c := 2) rfl rfl rfl ?_
      refine zeCF rfl rfl rfl rfl rfl rfl (c_of (m := m) (W := W) (t := t) (k := 2) (by first | assumption | omega)) (by omega) ?_
      dsimp only [Option.toList, List.cons_append, List.nil_append]
      refine zeKn (c := 1) rfl rfl rfl ?_
      refine zeB2 rfl rfl (fun h2 => ?_) (fun h2 => ?_)
      · refine zeKn (c := 0) rfl rfl rfl ?_
        exact zeRe rfl rfl rfl rfl (by simp only [l_yields, h1, h2, cond_true, cond_false] <;> rfl) (by simp only [l_yields, h1, h2, cond_true, cond_false] <;> rfl)
      · refine zeP rfl rfl ?_
        refine zeGR rfl rfl zS137 rfl rfl ?_
        refine zeKn (c := 8) rfl rfl rfl ?_
        refine zeWL (k := 8) rfl (by omega) ?_
        refine zeKn (c := 1) rfl rfl rfl ?_
        refine zeB2 rfl rfl (fun h3 => ?_) (fun h3 => ?_)
        · refine zeKn (c := 0) rfl rfl rfl ?_
          exact zeRe rfl rfl rfl rfl (by simp only [l_yields, h1, h2, h3, cond_true, cond_false] <;> rfl) (by simp only [l_yields, h1, h2, h3, cond_true, cond_false] <;> rfl)
        · refine zeKn (c := 1) rfl rfl rfl ?_
          refine zeP rfl rfl ?_
          exact zeRe rfl rfl rfl rfl (by simp only [l_yields, h1, h2, h3, cond_true, cond_false] <;> rfl) (by simp only [l_yields, h1, h2, h3, cond_true, cond_false] <;> rfl)
  | succ n ih =>
    intro b k hk
    refine zeP rfl rfl ?_
    refine zeP rfl rfl ?_
    refine zeCF rfl rfl rfl rfl rfl rfl (c_threads (m := m) (W := W)  ) (by omega) ?_
    dsimp only [Option.toList, List.cons_append, List.nil_append]
    rw [show q_threads W = Int32.ofNat (nv W 9) from hN]
    refine zeF2 rfl rfl (zcge_f (by omega) (by omega) (by omega)) ?_
    refine zeP rfl rfl ?_
    refine zeB1 rfl rfl (fun h1 => ?_) (fun h1 => ?_)
    · refine zeKn (c := 1) rfl rfl rfl ?_
      refine zeP rfl rfl ?_
      refine zeP rfl rfl ?_
      refine zeInc rfl rfl ?_
      refine zeP rfl rfl ?_
      simp only [l_yields, h1, cond_true, cond_false]
      exact ih ((Int32.ofNat 1)) ((k + 1))   (by omega) 
    · refine zeP rfl rfl ?_
      refine zeP rfl rfl ?_
      refine zeCF rfl rfl rfl rfl rfl rfl (c_holds (m := m) (W := W) (s := s) (k := k) ) (by omega) ?_
      dsimp only [Option.toList, List.cons_append, List.nil_append]
      refine zeB1 rfl rfl (fun h2 => ?_) (fun h2 => ?_)
      · refine zeKn (c := 0) rfl rfl rfl ?_
        refine zeP rfl rfl ?_
        refine zeInc rfl rfl ?_
        refine zeP rfl rfl ?_
        simp only [l_yields, h1, h2, cond_true, cond_false]
        exact ih ((Int32.ofNat 0)) ((k + 1))   (by omega) 
      · refine zeP rfl rfl ?_
        refine zeP rfl rfl ?_
        refine zeKn (c := 20) rfl rfl rfl ?_
        refine zeCF rfl rfl rfl rfl rfl rfl (c_of (m := m) (W := W) (t := k) (k := 20) (by first | assumption | omega)) (by omega) ?_
        dsimp only [Option.toList, List.cons_append, List.nil_append]
        refine zeP rfl rfl ?_
        refine zeP rfl rfl ?_
        refine zeKn (c := 20) rfl rfl rfl ?_
        refine zeCF rfl rfl rfl rfl rfl rfl (c_of (m := m) (W := W) (t := t) (k := 20) (by first | assumption | omega)) (by omega) ?_
        dsimp only [Option.toList, List.cons_append, List.nil_append]
        refine zeB2 rfl rfl (fun h3 => ?_) (fun h3 => ?_)
        · refine zeKn (c := 0) rfl rfl rfl ?_
          refine zeP rfl rfl ?_
          refine zeInc rfl rfl ?_
          refine zeP rfl rfl ?_
          simp only [l_yields, h1, h2, h3, cond_true, cond_false]
          exact ih ((Int32.ofNat 0)) ((k + 1))   (by omega) 
        · refine zeKn (c := 1) rfl rfl rfl ?_
          refine zeP rfl rfl ?_
          refine zeP rfl rfl ?_
          refine zeInc rfl rfl ?_
          refine zeP rfl rfl ?_
          simp only [l_yields, h1, h2, h3, cond_true, cond_false]
          exact ih ((Int32.ofNat 1)) ((k + 1))   (by omega) 
noncomputable def q_yields (W : Nat → Int32) (t : Nat) (s : Int32) : Int32 := (l_yields W t s ((nv W 9)) ((Int32.ofNat 0)) 0)
theorem p_yields {σ : Nat → Nat × (Nat → Int32)} {yy : (Nat → Nat → Int64) × Bool × Nat × Nat} {m : Nat → Nat → Int32} {W : Nat → Int32} {t : Nat} {s : Int32} {d : Nat} (hd : 3 ≤ d + 1) (hN : W 9 = Int32.ofNat (nv W 9)) (hN4 : nv W 9 ≤ 4) (ht : t < 4) : zEv σ (d + 1) 1820 0 [some (.ref 137), some (.int (Int32.ofNat t)), some (.int s), none, none] [] (zS1, zrow m 138 W, yy) (.inl (some (.int (q_yields W t s)))) (zS1, zrow m 138 W, yy) := by
  refine zeKn (c := 0) rfl rfl rfl ?_
  refine zeP rfl rfl ?_
  refine zeKn (c := 0) rfl rfl rfl ?_
  refine zeP rfl rfl ?_
  simp only [q_yields, cond_true, cond_false]
  exact w_yields (t := t) (s := s) (W := W) (m := m) (by omega) (by first | assumption | omega) (by first | assumption | omega) (by first | assumption | omega) ((nv W 9)) ((Int32.ofNat 0)) (0)   (by omega) 
theorem c_yields {σ : Nat → Nat × (Nat → Int32)} {yy : (Nat → Nat → Int64) × Bool × Nat × Nat} {m : Nat → Nat → Int32} {W : Nat → Int32} {t : Nat} {s : Int32} (hN : W 9 = Int32.ofNat (nv W 9)) (hN4 : nv W 9 ≤ 4) (ht : t < 4) : zF σ 3 1820 [.ref 137, .int (Int32.ofNat t), .int s] (zS1, zrow m 138 W, yy) (.inl (some (.int (q_yields W t s)))) (zS1, zrow m 138 W, yy) := by
  intro d hd
  obtain ⟨d, rfl⟩ : ∃ k, d = k + 1 := ⟨d - 1, by omega⟩
  exact p_yields hd hN hN4 ht
noncomputable def q_seen (W : Nat → Int32) (t : Nat) (w : Nat) : Int32 := (bif zc1 .eq (q_holds ((q_of W t 17)) w) then (W (32 + w)) else (q_of W t ((23 + w))))
theorem p_seen {σ : Nat → Nat × (Nat → Int32)} {yy : (Nat → Nat → Int64) × Bool × Nat × Nat} {m : Nat → Nat → Int32} {W : Nat → Int32} {t : Nat} {w : Nat} {d : Nat} (hd : 3 ≤ d + 1) (ht : t < 4) (hw : w < 32) : zEv σ (d + 1) 1822 0 [some (.ref 137), some (.int (Int32.ofNat t)), some (.int (Int32.ofNat w))] [] (zS1, zrow m 138 W, yy) (.inl (some (.int (q_seen W t w)))) (zS1, zrow m 138 W, yy) := by
  refine zeP rfl rfl ?_
  refine zeP rfl rfl ?_
  refine zeKn (c := 17) rfl rfl rfl ?_
  refine zeCF rfl rfl rfl rfl rfl rfl (c_of (m := m) (W := W) (t := t) (k := 17) (by first | assumption | omega)) (by omega) ?_
  dsimp only [Option.toList, List.cons_append, List.nil_append]
  refine zeP rfl rfl ?_
  refine zeCF rfl rfl rfl rfl rfl rfl (c_holds (m := m) (W := W) (s := (q_of W t 17)) (k := w) ) (by omega) ?_
  dsimp only [Option.toList, List.cons_append, List.nil_append]
  refine zeB1 rfl rfl (fun h1 => ?_) (fun h1 => ?_)
  · refine zeP rfl rfl ?_
    refine zeGR rfl rfl zS137 rfl rfl ?_
    refine zeKn (c := 32) rfl rfl rfl ?_
    refine zeP rfl rfl ?_
    refine zeAdd rfl ?_
    refine zeWL (k := (32 + w)) rfl (by omega) ?_
    exact zeRe rfl rfl rfl rfl (by simp only [q_seen, h1, cond_true, cond_false] <;> rfl) (by simp only [q_seen, h1, cond_true, cond_false] <;> rfl)
  · refine zeP rfl rfl ?_
    refine zeP rfl rfl ?_
    refine zeKn (c := 23) rfl rfl rfl ?_
    refine zeP rfl rfl ?_
    refine zeAdd rfl ?_
    refine zeCF rfl rfl rfl rfl rfl rfl (c_of (m := m) (W := W) (t := t) (k := (23 + w)) (by first | assumption | omega)) (by omega) ?_
    dsimp only [Option.toList, List.cons_append, List.nil_append]
    refine zeP rfl rfl ?_
    exact zeRe rfl rfl rfl rfl (by simp only [q_seen, h1, cond_true, cond_false] <;> rfl) (by simp only [q_seen, h1, cond_true, cond_false] <;> rfl)
theorem c_seen {σ : Nat → Nat × (Nat → Int32)} {yy : (Nat → Nat → Int64) × Bool × Nat × Nat} {m : Nat → Nat → Int32} {W : Nat → Int32} {t : Nat} {w : Nat} (ht : t < 4) (hw : w < 32) : zF σ 3 1822 [.ref 137, .int (Int32.ofNat t), .int (Int32.ofNat w)] (zS1, zrow m 138 W, yy) (.inl (some (.int (q_seen W t w)))) (zS1, zrow m 138 W, yy) := by
  intro d hd
  obtain ⟨d, rfl⟩ : ∃ k, d = k + 1 := ⟨d - 1, by omega⟩
  exact p_seen hd ht hw
noncomputable def l_placeLeft (W : Nat → Int32) (t : Nat) (l : Int32) : Nat → Int32 → Nat → Int32
  | 0, p, k => p
  | n + 1, p, k => (bif zc2 .ne (q_of W t ((11 + k))) l then (l_placeLeft W t l n p ((k + 1))) else (l_placeLeft W t l n ((Int32.ofNat k)) ((k + 1))))
theorem w_placeLeft {σ : Nat → Nat × (Nat → Int32)} {yy : (Nat → Nat → Int64) × Bool × Nat × Nat} {m : Nat → Nat → Int32} {W : Nat → Int32} {t : Nat} {l : Int32} {d : Nat} (hd : 3 ≤ d + 1) (ht : t < 4) (hQ : W (376 + 103 * t + 10) = Int32.ofNat (nv W (376 + 103 * t + 10))) (hQ4 : nv W (376 + 103 * t + 10) ≤ 4) : ∀ (n : Nat) (p : Int32) (k : Nat), k + n = nv W (376 + 103 * t + 10) → zEv σ (d + 1) 1825 5 [some (.ref 137), some (.int (Int32.ofNat t)), some (.int l), some (.int p), some (.int (Int32.ofNat k))] [] (zS1, zrow m 138 W, yy) (.inl (some (.int (l_placeLeft W t l n p k)))) (zS1, zrow m 138 W, yy) := by
  intro n
  induction n with
  | zero =>
    intro p k hk
    refine zeP rfl rfl ?_
    refine zeP rfl rfl ?_
    refine zeP rfl rfl ?_
    refine zeKn (c := 10) rfl rfl rfl ?_
    refine zeCF rfl rfl rfl rfl rfl rfl (c_of (m := m) (W := W) (t := t) (k := 10) (by first | assumption | omega)) (by omega) ?_
    dsimp only [Option.toList, List.cons_append, List.nil_append]
    rw [show q_of W t 10 = Int32.ofNat (nv W (376 + 103 * t + 10)) from hQ]
    refine zeT2 rfl rfl (zcge (by omega) (by omega) (by omega)) ?_
    refine zeP rfl rfl ?_
    exact zeRe rfl rfl rfl rfl (by rfl) (by rfl)
  | succ n ih =>
    intro p k hk
    refine zeP rfl rfl ?_
    refine zeP rfl rfl ?_
    refine zeP rfl rfl ?_
    refine zeKn (c := 10) rfl rfl rfl ?_
    refine zeCF rfl rfl rfl rfl rfl rfl (c_of (m := m) (W := W) (t := t) (k := 10) (by first | assumption | omega)) (by omega) ?_
    dsimp only [Option.toList, List.cons_append, List.nil_append]
    rw [show q_of W t 10 = Int32.ofNat (nv W (376 + 103 * t + 10)) from hQ]
    refine zeF2 rfl rfl (zcge_f (by omega) (by omega) (by omega)) ?_
    refine zeP rfl rfl ?_
    refine zeP rfl rfl ?_
    refine zeKn (c := 11) rfl rfl rfl ?_
    refine zeP rfl rfl ?_
    refine zeAdd rfl ?_
    refine zeCF rfl rfl rfl rfl rfl rfl (c_of (m := m) (W := W) (t := t) (k := (11 + k)) (by first | assumption | omega)) (by omega) ?_
    dsimp only [Option.toList, List.cons_append, List.nil_append]
    refine zeP rfl rfl ?_
    refine zeB2 rfl rfl (fun h1 => ?_) (fun h1 => ?_)
    · refine zeP rfl rfl ?_
      refine zeP rfl rfl ?_
      refine zeInc rfl rfl ?_
      refine zeP rfl rfl ?_
      simp only [l_placeLeft, h1, cond_true, cond_false]
      exact ih (p) ((k + 1))   (by omega) 
    · refine zeP rfl rfl ?_
      refine zeP rfl rfl ?_
      refine zeP rfl rfl ?_
      refine zeInc rfl rfl ?_
      refine zeP rfl rfl ?_
      simp only [l_placeLeft, h1, cond_true, cond_false]
      exact ih ((Int32.ofNat k)) ((k + 1))   (by omega) 
noncomputable def q_placeLeft (W : Nat → Int32) (t : Nat) (l : Int32) : Int32 := (l_placeLeft W t l ((nv W (376 + 103 * t + 10))) ((-1)) 0)
theorem p_placeLeft {σ : Nat → Nat × (Nat → Int32)} {yy : (Nat → Nat → Int64) × Bool × Nat × Nat} {m : Nat → Nat → Int32} {W : Nat → Int32} {t : Nat} {l : Int32} {d : Nat} (hd : 3 ≤ d + 1) (ht : t < 4) (hQ : W (376 + 103 * t + 10) = Int32.ofNat (nv W (376 + 103 * t + 10))) (hQ4 : nv W (376 + 103 * t + 10) ≤ 4) : zEv σ (d + 1) 1825 0 [some (.ref 137), some (.int (Int32.ofNat t)), some (.int l), none, none] [] (zS1, zrow m 138 W, yy) (.inl (some (.int (q_placeLeft W t l)))) (zS1, zrow m 138 W, yy) := by
  refine zeK (v := -1) rfl rfl rfl ?_
  refine zeP rfl rfl ?_
  refine zeKn (c := 0) rfl rfl rfl ?_
  refine zeP rfl rfl ?_
  simp only [q_placeLeft, cond_true, cond_false]
  exact w_placeLeft (t := t) (l := l) (W := W) (m := m) (by omega) (by first | assumption | omega) (by first | assumption | omega) (by first | assumption | omega) ((nv W (376 + 103 * t + 10))) ((-1)) (0)   (by omega) 
theorem c_placeLeft {σ : Nat → Nat × (Nat → Int32)} {yy : (Nat → Nat → Int64) × Bool × Nat × Nat} {m : Nat → Nat → Int32} {W : Nat → Int32} {t : Nat} {l : Int32} (ht : t < 4) (hQ : W (376 + 103 * t + 10) = Int32.ofNat (nv W (376 + 103 * t + 10))) (hQ4 : nv W (376 + 103 * t + 10) ≤ 4) : zF σ 3 1825 [.ref 137, .int (Int32.ofNat t), .int l] (zS1, zrow m 138 W, yy) (.inl (some (.int (q_placeLeft W t l)))) (zS1, zrow m 138 W, yy) := by
  intro d hd
  obtain ⟨d, rfl⟩ : ∃ k, d = k + 1 := ⟨d - 1, by omega⟩
  exact p_placeLeft hd ht hQ hQ4
end
section
/-! what stays as it was -/
noncomputable def WC (W : Nat → Int32) : Prop := W 15 = Int32.ofNat (nv W 15) ∧ nv W 15 ≤ 60
noncomputable def WL (W : Nat → Int32) : Prop := ∀ t, t < 4 → W (376 + 103 * t + 11) = Int32.ofNat (nv W (376 + 103 * t + 11)) ∧ nv W (376 + 103 * t + 11) < 4
theorem nv_of {W V : Nat → Int32} {k : Nat} (h : W k = V k) : nv W k = nv V k := by
  unfold nv
  rw [h]
theorem nv_on {n : Nat} (h : n < 2147483648) : (Int32.ofNat n).toNatClampNeg = n := Int32.toNatClampNeg_ofNat_of_lt h
theorem logsT_fr {W : Nat → Int32} {t w v : Int32} {k : Nat} (hC : nv W 15 < 60) (h15 : k ≠ 15) (hk : k < 136 ∨ 376 ≤ k) : q_logsT W t w v k = W k := by
  unfold q_logsT
  simp (disch := omega) only [upd_ne]
theorem logsT_15 {W : Nat → Int32} {t w v : Int32} (hC : nv W 15 < 60) : q_logsT W t w v 15 = W 15 + Int32.ofNat 1 := by
  unfold q_logsT
  rw [upd_at]
  simp (disch := omega) only [upd_ne]
theorem logsL_fr {t w v : Int32} {j : Nat} (h15 : j ≠ 15) (hj : j < 136 ∨ 376 ≤ j) : ∀ (n k : Nat) (W : Nat → Int32), k + n = 236 → W 15 = Int32.ofNat 60 → l_logsL t w v n k W j = W j := by
  intro n
  induction n with
  | zero =>
    intro k W hk hW
    rw [l_logsL, logsT_fr (zl60 hW).2 h15 hj, upd_ne _ _ h15]
  | succ n ih =>
    intro k W hk hW
    rw [l_logsL, ih _ _ (by omega) (by rw [upd_ne _ _ (by omega)]; exact hW), upd_ne _ _ (by omega)]
theorem logsL_15 {t w v : Int32} : ∀ (n k : Nat) (W : Nat → Int32), k + n = 236 → W 15 = Int32.ofNat 60 → l_logsL t w v n k W 15 = Int32.ofNat 60 := by
  intro n
  induction n with
  | zero =>
    intro k W hk hW
    rw [l_logsL, logsT_15 (zl60 hW).2, upd_at, hW]
    decide
  | succ n ih =>
    intro k W hk hW
    rw [l_logsL]
    exact ih _ _ (by omega) (by rw [upd_ne _ _ (by omega)]; exact hW)
theorem logs_fr {W : Nat → Int32} {t w v : Int32} {k : Nat} (hC : WC W) (h15 : k ≠ 15) (hk : k < 136 ∨ 376 ≤ k) : q_logs W t w v k = W k := by
  unfold q_logs
  cases h1 : zc2 .ne (W 15) (Int32.ofNat 60) with
  | true => rw [cond_true]; exact logsT_fr (znelt (by omega) hC.1 hC.2 h1) h15 hk
  | false => rw [cond_false]; exact logsL_fr h15 hk _ _ _ rfl (zeqn h1)
theorem logs_WC {W : Nat → Int32} {t w v : Int32} (hC : WC W) : WC (q_logs W t w v) := by
  unfold q_logs
  cases h1 : zc2 .ne (W 15) (Int32.ofNat 60) with
  | true =>
    rw [cond_true]
    have h2 := znelt (by omega) hC.1 hC.2 h1
    have h3 : q_logsT W t w v 15 = Int32.ofNat (nv W 15 + 1) := by rw [logsT_15 h2, Int32.ofNat_add, ← hC.1]
    unfold WC nv
    rw [h3, nv_on (by omega)]
    exact ⟨rfl, by omega⟩
  | false =>
    rw [cond_false]
    unfold WC nv
    rw [logsL_15 _ _ _ rfl (zeqn h1)]
    decide
theorem WC_of {W V : Nat → Int32} (h : V 15 = W 15) (hC : WC W) : WC V := by
  unfold WC nv at *
  rw [h]; exact hC
/-- the cells of its thread that a fall touches -/
noncomputable def fT (c : Nat) : Prop := c < 4 ∨ (5 ≤ c ∧ c ≤ 10) ∨ (15 ≤ c ∧ c ≤ 17) ∨ c = 21
theorem falls_fr {W : Nat → Int32} {t y k : Nat} (ht : t < 4) (hy : y < 5) (hC : WC W) (hL4 : nv W (376 + 103 * t + 11) < 4) (h15 : k ≠ 15) (hk : k < 136 ∨ 376 ≤ k) (hl : k ≠ 20 + nv W (376 + 103 * t + 11)) (hT : ∀ c, k = 376 + 103 * t + c → ¬ fT c) : q_falls W t y k = W k := by
  have hx : ∀ c, fT c → k ≠ 376 + 103 * t + c := fun c hc e => hT c e hc
  have a0 := hx 0 (by unfold fT; omega)
  have a1 := hx 1 (by unfold fT; omega)
  have a2 := hx 2 (by unfold fT; omega)
  have a3 := hx 3 (by unfold fT; omega)
  have a5 := hx (5 + y) (by unfold fT; omega)
  have a10 := hx 10 (by unfold fT; omega)
  have a15 := hx 15 (by unfold fT; omega)
  have a16 := hx 16 (by unfold fT; omega)
  have a17 := hx 17 (by unfold fT; omega)
  have a21 := hx 21 (by unfold fT; omega)
  unfold q_falls
  rw [logs_fr (WC_of (by simp (disch := omega) only [q_ends, upd_ne]) hC) h15 hk]
  simp (disch := omega) only [q_ends, upd_ne]
theorem falls_WC {W : Nat → Int32} {t y : Nat} (ht : t < 4) (hy : y < 5) (hC : WC W) : WC (q_falls W t y) := by
  unfold q_falls
  exact logs_WC (WC_of (by simp (disch := omega) only [q_ends, upd_ne]) hC)
theorem falls_9 {W : Nat → Int32} {t y : Nat} (ht : t < 4) (hy : y < 5) (hC : WC W) (hL : WL W) : q_falls W t y 9 = W 9 :=
  falls_fr ht hy hC (hL t ht).2 (by omega) (by omega) (by omega) (fun c e => absurd e (by omega))
theorem falls_WL {W : Nat → Int32} {t y : Nat} (ht : t < 4) (hy : y < 5) (hC : WC W) (hL : WL W) : WL (q_falls W t y) := by
  intro u hu
  have h : q_falls W t y (376 + 103 * u + 11) = W (376 + 103 * u + 11) := by
    have := (hL t ht).2
    refine falls_fr ht hy hC this (by omega) (by omega) (by omega) (fun c e hc => ?_)
    unfold fT at hc
    omega
  unfold nv
  rw [h]
  exact hL u hu
end
section
theorem zne1 {a : Nat} (h : a < 2147483648) : zc2 .eq (Int32.ofNat a) (-1) = false := by
  apply decide_eq_false
  intro e
  have h1 := congrArg Int32.toInt e
  rw [zoN h] at h1
  have h2 : (-1 : Int32).toInt = -1 := by decide
  omega
noncomputable def l_clears (t : Int32) (s : Int32) (n9 : Nat) : Nat → Nat → (Nat → Int32) → Int32 × (Nat → Int32)
  | 0, k, W => ((Int32.ofNat 1), W)
  | n + 1, k, W => (bif zc1 .eq (q_holds s k) then (l_clears t s n9 n ((k + 1)) W) else (l_clears t s n9 n ((k + 1)) ((q_falls W k 0))))
theorem w_clears {σ : Nat → Nat × (Nat → Int32)} {yy : (Nat → Nat → Int64) × Bool × Nat × Nat} {m : Nat → Nat → Int32} {t : Int32} {s : Int32} {n9 : Nat} {d : Nat} (hd : 4 ≤ d + 1) (hn : n9 ≤ 4) : ∀ (n : Nat) (k : Nat) (W : Nat → Int32), k + n = n9 → W 9 = Int32.ofNat n9 → WC W → WL W → zEv σ (d + 1) 1821 24 [some (.ref 137), some (.int t), some (.int s), some (.int (Int32.ofNat k))] [] (zS1, zrow m 138 W, yy) (.inl (some (.int (l_clears t s n9 n k W).1))) (zS1, zrow m 138 ((l_clears t s n9 n k W).2), yy) := by
  intro n
  induction n with
  | zero =>
    intro k W hk hN hC hWL
    refine zeP rfl rfl ?_
    refine zeP rfl rfl ?_
    refine zeCF rfl rfl rfl rfl rfl rfl (c_threads (m := m) (W := W)  ) (by omega) ?_
    dsimp only [Option.toList, List.cons_append, List.nil_append]
    rw [show q_threads W = Int32.ofNat n9 from hN]
    refine zeT2 rfl rfl (zcge (by omega) (by omega) (by omega)) ?_
    refine zeKn (c := 1) rfl rfl rfl ?_
    exact zeRe rfl rfl rfl rfl (by rfl) (by rfl)
  | succ n ih =>
    intro k W hk hN hC hWL
    refine zeP rfl rfl ?_
    refine zeP rfl rfl ?_
    refine zeCF rfl rfl rfl rfl rfl rfl (c_threads (m := m) (W := W)  ) (by omega) ?_
    dsimp only [Option.toList, List.cons_append, List.nil_append]
    rw [show q_threads W = Int32.ofNat n9 from hN]
    refine zeF2 rfl rfl (zcge_f (by omega) (by omega) (by omega)) ?_
    refine zeP rfl rfl ?_
    refine zeP rfl rfl ?_
    refine zeCF rfl rfl rfl rfl rfl rfl (c_holds (m := m) (W := W) (s := s) (k := k) ) (by omega) ?_
    dsimp only [Option.toList, List.cons_append, List.nil_append]
    refine zeB1 rfl rfl (fun h1 => ?_) (fun h1 => ?_)
    · refine zeInc rfl rfl ?_
      refine zeP rfl rfl ?_
      simp only [l_clears, h1, cond_true, cond_false]
      exact ih ((k + 1)) W  (by omega) (by first | exact hN | (rw [falls_9 (by omega) (by omega) hC hWL]; exact hN)) (by first | exact hC | exact falls_WC (by omega) (by omega) hC) (by first | exact hWL | exact falls_WL (by omega) (by omega) hC hWL)
    · refine zeP rfl rfl ?_
      refine zeP rfl rfl ?_
      refine zeKn (c := 0) rfl rfl rfl ?_
      refine zeCF rfl rfl rfl rfl rfl rfl (c_falls (m := m) (W := W) (t := k) (y := 0) (by omega) (by omega) (hWL k (by omega)).1 (hWL k (by omega)).2 hC.1 hC.2) (by omega) ?_
      dsimp only [Option.toList, List.cons_append, List.nil_append]
      refine zeInc rfl rfl ?_
      refine zeP rfl rfl ?_
      simp only [l_clears, h1, cond_true, cond_false]
      exact ih ((k + 1)) ((q_falls W k 0))  (by omega) (by first | exact hN | (rw [falls_9 (by omega) (by omega) hC hWL]; exact hN)) (by first | exact hC | exact falls_WC (by omega) (by omega) hC) (by first | exact hWL | exact falls_WL (by omega) (by omega) hC hWL)
noncomputable def q_clearsX (W : Nat → Int32) (s : Int32) : Int32 × (Nat → Int32) := (l_clears ((-1)) s ((nv W 9)) ((nv W 9)) 0 W)
theorem p_clearsX {σ : Nat → Nat × (Nat → Int32)} {yy : (Nat → Nat → Int64) × Bool × Nat × Nat} {m : Nat → Nat → Int32} {W : Nat → Int32} {s : Int32} {d : Nat} (hd : 4 ≤ d + 1) (hN : W 9 = Int32.ofNat (nv W 9)) (hN4 : nv W 9 ≤ 4) (hC : WC W) (hWL : WL W) : zEv σ (d + 1) 1821 0 [some (.ref 137), some (.int (-1)), some (.int s), none] [] (zS1, zrow m 138 W, yy) (.inl (some (.int (q_clearsX W s).1))) (zS1, zrow m 138 ((q_clearsX W s).2), yy) := by
  refine zeP rfl rfl ?_
  refine zeK (v := -1) rfl rfl rfl ?_
  refine zeT2 rfl rfl (by decide) ?_
  refine zeKn (c := 0) rfl rfl rfl ?_
  refine zeP rfl rfl ?_
  simp only [q_clearsX, cond_true, cond_false]
  exact w_clears (t := (-1)) (s := s) (n9 := (nv W 9)) (m := m) (by omega) hN4 ((nv W 9)) (0) W  (by omega) hN hC hWL
theorem c_clearsX {σ : Nat → Nat × (Nat → Int32)} {yy : (Nat → Nat → Int64) × Bool × Nat × Nat} {m : Nat → Nat → Int32} {W : Nat → Int32} {s : Int32} (hN : W 9 = Int32.ofNat (nv W 9)) (hN4 : nv W 9 ≤ 4) (hC : WC W) (hWL : WL W) : zF σ 4 1821 [.ref 137, .int (-1), .int s] (zS1, zrow m 138 W, yy) (.inl (some (.int (q_clearsX W s).1))) (zS1, zrow m 138 ((q_clearsX W s).2), yy) := by
  intro d hd
  obtain ⟨d, rfl⟩ : ∃ k, d = k + 1 := ⟨d - 1, by omega⟩
  exact p_clearsX hd hN hN4 hC hWL
noncomputable def q_clears (m : Nat → Nat → Int32) (W : Nat → Int32) (t : Nat) (s : Int32) : Int32 × (Nat → Int32) × (Nat → Nat → Int32) := (bif zc1 .eq (q_yields W t s) then ((l_clears ((Int32.ofNat t)) s ((nv W 9)) ((nv W 9)) 0 W).1, (l_clears ((Int32.ofNat t)) s ((nv W 9)) ((nv W 9)) 0 W).2, m) else ((Int32.ofNat 0), (q_itFalls m W t 0).1, (q_itFalls m W t 0).2))
theorem p_clears {σ : Nat → Nat × (Nat → Int32)} {yy : (Nat → Nat → Int64) × Bool × Nat × Nat} {m : Nat → Nat → Int32} {W : Nat → Int32} {t : Nat} {s : Int32} {d : Nat} (hd : 5 ≤ d + 1) (ht : t < 4) (hN : W 9 = Int32.ofNat (nv W 9)) (hN4 : nv W 9 ≤ 4) (hC : WC W) (hWL : WL W) : zEv σ (d + 1) 1821 0 [some (.ref 137), some (.int (Int32.ofNat t)), some (.int s), none] [] (zS1, zrow m 138 W, yy) (.inl (some (.int (q_clears m W t s).1))) (zS1, zrow ((q_clears m W t s).2.2) 138 ((q_clears m W t s).2.1), yy) := by
  refine zeP rfl rfl ?_
  refine zeK (v := -1) rfl rfl rfl ?_
  refine zeF2 rfl rfl (zne1 (by omega)) ?_
  refine zeP rfl rfl ?_
  refine zeP rfl rfl ?_
  refine zeP rfl rfl ?_
  refine zeCF rfl rfl rfl rfl rfl rfl (c_yields (m := m) (W := W) (t := t) (s := s) hN hN4 ht) (by omega) ?_
  dsimp only [Option.toList, List.cons_append, List.nil_append]
  refine zeB1 rfl rfl (fun h1 => ?_) (fun h1 => ?_)
  · refine zeKn (c := 0) rfl rfl rfl ?_
    refine zeP rfl rfl ?_
    simp only [q_clears, h1, cond_true, cond_false]
    exact w_clears (t := (Int32.ofNat t)) (s := s) (n9 := (nv W 9)) (m := m) (by omega) hN4 ((nv W 9)) (0) W  (by omega) hN hC hWL
  · refine zeP rfl rfl ?_
    refine zeP rfl rfl ?_
    refine zeKn (c := 0) rfl rfl rfl ?_
    refine zeCF rfl rfl rfl rfl rfl rfl (c_itFalls (m := m) (W := W) (t := t) (y := 0) ht (by omega) (hWL t ht).1 (hWL t ht).2 hC.1 hC.2) (by omega) ?_
    dsimp only [Option.toList, List.cons_append, List.nil_append]
    refine zeKn (c := 0) rfl rfl rfl ?_
    exact zeRe rfl rfl rfl rfl (by simp only [q_clears, h1, cond_true, cond_false] <;> rfl) (by simp only [q_clears, h1, cond_true, cond_false] <;> rfl)
theorem c_clears {σ : Nat → Nat × (Nat → Int32)} {yy : (Nat → Nat → Int64) × Bool × Nat × Nat} {m : Nat → Nat → Int32} {W : Nat → Int32} {t : Nat} {s : Int32} (ht : t < 4) (hN : W 9 = Int32.ofNat (nv W 9)) (hN4 : nv W 9 ≤ 4) (hC : WC W) (hWL : WL W) : zF σ 5 1821 [.ref 137, .int (Int32.ofNat t), .int s] (zS1, zrow m 138 W, yy) (.inl (some (.int (q_clears m W t s).1))) (zS1, zrow ((q_clears m W t s).2.2) 138 ((q_clears m W t s).2.1), yy) := by
  intro d hd
  obtain ⟨d, rfl⟩ : ∃ k, d = k + 1 := ⟨d - 1, by omega⟩
  exact p_clears hd ht hN hN4 hC hWL
noncomputable def q_leavesOut (W : Nat → Int32) (t : Nat) (l : Nat) : (Nat → Int32) := (upd ((upd W (376 + 103 * t + ((11 + (nv W (376 + 103 * t + 10))))) (Int32.ofNat l))) (376 + 103 * t + 10) ((((upd W (376 + 103 * t + ((11 + (nv W (376 + 103 * t + 10))))) (Int32.ofNat l))) (376 + 103 * t + 10)) + (Int32.ofNat 1)))
theorem p_leavesOut {σ : Nat → Nat × (Nat → Int32)} {yy : (Nat → Nat → Int64) × Bool × Nat × Nat} {m : Nat → Nat → Int32} {W : Nat → Int32} {t : Nat} {l : Nat} {d : Nat} (hd : 3 ≤ d + 1) (ht : t < 4) (hQ : W (376 + 103 * t + 10) = Int32.ofNat (nv W (376 + 103 * t + 10))) (hQ4 : nv W (376 + 103 * t + 10) < 4) : zEv σ (d + 1) 1826 0 [some (.ref 137), some (.int (Int32.ofNat t)), some (.int (Int32.ofNat l))] [] (zS1, zrow m 138 W, yy) (.inl none) (zS1, zrow m 138 ((q_leavesOut W t l)), yy) := by
  refine zeP rfl rfl ?_
  refine zeGR rfl rfl zS137 rfl rfl ?_
  refine zeP rfl rfl ?_
  refine zeKn (c := 11) rfl rfl rfl ?_
  refine zeP rfl rfl ?_
  refine zeP rfl rfl ?_
  refine zeKn (c := 10) rfl rfl rfl ?_
  refine zeCF rfl rfl rfl rfl rfl rfl (c_of (m := m) (W := W) (t := t) (k := 10) (by first | assumption | omega)) (by omega) ?_
  dsimp only [Option.toList, List.cons_append, List.nil_append]
  rw [show q_of W t 10 = Int32.ofNat (nv W (376 + 103 * t + 10)) from hQ]
  refine zeAdd rfl ?_
  refine zeCF rfl rfl rfl rfl rfl rfl (c_at (m := m) (W := W) (t := t) (k := (11 + (nv W (376 + 103 * t + 10)))) ) (by omega) ?_
  dsimp only [Option.toList, List.cons_append, List.nil_append]
  refine zeP rfl rfl ?_
  refine zeWS (k := (376 + 103 * t + ((11 + (nv W (376 + 103 * t + 10)))))) rfl (by omega) ?_
  refine zeP rfl rfl ?_
  refine zeGR rfl rfl zS137 rfl rfl ?_
  refine zeP rfl rfl ?_
  refine zeKn (c := 10) rfl rfl rfl ?_
  refine zeCF rfl rfl rfl rfl rfl rfl (c_at (m := m) (W := (upd W (376 + 103 * t + ((11 + (nv W (376 + 103 * t + 10))))) (Int32.ofNat l))) (t := t) (k := 10) ) (by omega) ?_
  dsimp only [Option.toList, List.cons_append, List.nil_append]
  refine zeP rfl rfl ?_
  refine zeWL (k := (376 + 103 * t + 10)) rfl (by omega) ?_
  refine zeKn (c := 1) rfl rfl rfl ?_
  refine zeP rfl rfl ?_
  refine zeWS (k := (376 + 103 * t + 10)) rfl (by omega) ?_
  exact zeRe rfl rfl rfl rfl (by rfl) (by rfl)
theorem c_leavesOut {σ : Nat → Nat × (Nat → Int32)} {yy : (Nat → Nat → Int64) × Bool × Nat × Nat} {m : Nat → Nat → Int32} {W : Nat → Int32} {t : Nat} {l : Nat} (ht : t < 4) (hQ : W (376 + 103 * t + 10) = Int32.ofNat (nv W (376 + 103 * t + 10))) (hQ4 : nv W (376 + 103 * t + 10) < 4) : zF σ 3 1826 [.ref 137, .int (Int32.ofNat t), .int (Int32.ofNat l)] (zS1, zrow m 138 W, yy) (.inl none) (zS1, zrow m 138 ((q_leavesOut W t l)), yy) := by
  intro d hd
  obtain ⟨d, rfl⟩ : ∃ k, d = k + 1 := ⟨d - 1, by omega⟩
  exact p_leavesOut hd ht hQ hQ4
noncomputable def q_works (W : Nat → Int32) (t : Nat) (n : Int32) : Int32 × (Nat → Int32) := (bif zc2 .ge (q_of ((upd W (376 + 103 * t + 21) ((W (376 + 103 * t + 21)) + (Int32.ofNat 1)))) t 21) n then ((Int32.ofNat 1), (upd ((upd W (376 + 103 * t + 21) ((W (376 + 103 * t + 21)) + (Int32.ofNat 1)))) (376 + 103 * t + 21) (Int32.ofNat 0))) else ((Int32.ofNat 0), (upd W (376 + 103 * t + 21) ((W (376 + 103 * t + 21)) + (Int32.ofNat 1)))))
theorem p_works {σ : Nat → Nat × (Nat → Int32)} {yy : (Nat → Nat → Int64) × Bool × Nat × Nat} {m : Nat → Nat → Int32} {W : Nat → Int32} {t : Nat} {n : Int32} {d : Nat} (hd : 3 ≤ d + 1) (ht : t < 4) : zEv σ (d + 1) 1832 0 [some (.ref 137), some (.int (Int32.ofNat t)), some (.int n)] [] (zS1, zrow m 138 W, yy) (.inl (some (.int (q_works W t n).1))) (zS1, zrow m 138 ((q_works W t n).2), yy) := by
  refine zeP rfl rfl ?_
  refine zeGR rfl rfl zS137 rfl rfl ?_
  refine zeP rfl rfl ?_
  refine zeKn (c := 21) rfl rfl rfl ?_
  refine zeCF rfl rfl rfl rfl rfl rfl (c_at (m := m) (W := W) (t := t) (k := 21) ) (by omega) ?_
  dsimp only [Option.toList, List.cons_append, List.nil_append]
  refine zeP rfl rfl ?_
  refine zeWL (k := (376 + 103 * t + 21)) rfl (by omega) ?_
  refine zeKn (c := 1) rfl rfl rfl ?_
  refine zeP rfl rfl ?_
  refine zeWS (k := (376 + 103 * t + 21)) rfl (by omega) ?_
  refine zeP rfl rfl ?_
  refine zeP rfl rfl ?_
  refine zeKn (c := 21) rfl rfl rfl ?_
  refine zeCF rfl rfl rfl rfl rfl rfl (c_of (m := m) (W := (upd W (376 + 103 * t + 21) ((W (376 + 103 * t + 21)) + (Int32.ofNat 1)))) (t := t) (k := 21) (by first | assumption | omega)) (by omega) ?_
  dsimp only [Option.toList, List.cons_append, List.nil_append]
  refine zeP rfl rfl ?_
  refine zeB2 rfl rfl (fun h1 => ?_) (fun h1 => ?_)
  · refine zeP rfl rfl ?_
    refine zeGR rfl rfl zS137 rfl rfl ?_
    refine zeP rfl rfl ?_
    refine zeKn (c := 21) rfl rfl rfl ?_
    refine zeCF rfl rfl rfl rfl rfl rfl (c_at (m := m) (W := (upd W (376 + 103 * t + 21) ((W (376 + 103 * t + 21)) + (Int32.ofNat 1)))) (t := t) (k := 21) ) (by omega) ?_
    dsimp only [Option.toList, List.cons_append, List.nil_append]
    refine zeKn (c := 0) rfl rfl rfl ?_
    refine zeWS (k := (376 + 103 * t + 21)) rfl (by omega) ?_
    refine zeKn (c := 1) rfl rfl rfl ?_
    exact zeRe rfl rfl rfl rfl (by simp only [q_works, h1, cond_true, cond_false] <;> rfl) (by simp only [q_works, h1, cond_true, cond_false] <;> rfl)
  · refine zeKn (c := 0) rfl rfl rfl ?_
    exact zeRe rfl rfl rfl rfl (by simp only [q_works, h1, cond_true, cond_false] <;> rfl) (by simp only [q_works, h1, cond_true, cond_false] <;> rfl)
theorem c_works {σ : Nat → Nat × (Nat → Int32)} {yy : (Nat → Nat → Int64) × Bool × Nat × Nat} {m : Nat → Nat → Int32} {W : Nat → Int32} {t : Nat} {n : Int32} (ht : t < 4) : zF σ 3 1832 [.ref 137, .int (Int32.ofNat t), .int n] (zS1, zrow m 138 W, yy) (.inl (some (.int (q_works W t n).1))) (zS1, zrow m 138 ((q_works W t n).2), yy) := by
  intro d hd
  obtain ⟨d, rfl⟩ : ∃ k, d = k + 1 := ⟨d - 1, by omega⟩
  exact p_works hd ht
end
