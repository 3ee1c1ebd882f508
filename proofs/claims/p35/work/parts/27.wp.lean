/-! what a run comes to: zW (from a place of a body), zT (of a call) -/
noncomputable def zW (σ : Nat → Nat × (Nat → Int32)) (d j pc : Nat) (lv : zLv) (st : List Value) (M : zMem) (P : zO → zMem → Prop) : Prop := ∃ o M', zEv σ d j pc lv st M o M' ∧ P o M'
noncomputable def zT (σ : Nat → Nat × (Nat → Int32)) (d j : Nat) (as : List Value) (M : zMem) (P : zO → zMem → Prop) : Prop := zW σ d j 0 (zarg j as) [] M P
section ZWP
variable {σ : Nat → Nat × (Nat → Int32)} {d j pc : Nat} {lv : zLv} {st : List Value} {M : zMem} {P : zO → zMem → Prop}
theorem zW.mono {P' : zO → zMem → Prop} (h : zW σ d j pc lv st M P) (hp : ∀ o M', P o M' → P' o M') : zW σ d j pc lv st M P' := by
  obtain ⟨o, M', h1, h2⟩ := h
  exact ⟨o, M', h1, hp o M' h2⟩
theorem zT.mono {as : List Value} {P' : zO → zMem → Prop} (h : zT σ d j as M P) (hp : ∀ o M', P o M' → P' o M') : zT σ d j as M P' := zW.mono h hp
/-- a pure step -/
theorem zwP {i : Instr} {len pc' : Nat} {lv' : zLv} {st' : List Value} (hf : zfe j pc = some (i, len)) (hp : zP (j / 200) i pc lv st = some (pc', lv', st')) (k : zW σ d j pc' lv' st' M P) : zW σ d j pc lv st M P := by
  obtain ⟨o, M', h1, h2⟩ := k
  exact ⟨o, M', zeP hf hp h1, h2⟩
/-- a constant -/
theorem zwK {i : Instr} {len pc' : Nat} {v w : Int32} (hf : zfe j pc = some (i, len)) (hp : zP (j / 200) i pc lv st = some (pc', lv, .int w :: st)) (hv : w = v) (k : zW σ d j pc' lv (.int v :: st) M P) : zW σ d j pc lv st M P := by
  subst hv
  exact zwP hf hp k
/-- a memory step -/
theorem zwS {i : Instr} {len pc' : Nat} {st' : List Value} {M1 : zMem} (hf : zfe j pc = some (i, len)) (hp : zP (j / 200) i pc lv st = none) (hs : zS σ (j / 200) (zini j) i pc st M = some (pc', st', M1)) (k : zW σ d j pc' lv st' M1 P) : zW σ d j pc lv st M P := by
  obtain ⟨o, M', h1, h2⟩ := k
  exact ⟨o, M', zeS hf hp hs h1, h2⟩
/-- a return -/
theorem zwR {i : Instr} {len : Nat} {v : Option Value} (hf : zfe j pc = some (i, len)) (hp : zP (j / 200) i pc lv st = none) (hs : zS σ (j / 200) (zini j) i pc st M = none) (hr : zret j i st = some v) (k : P (.inl v) M) : zW σ d j pc lv st M P := ⟨_, _, zeR hf hp hs hr, k⟩
/-- a throw -/
theorem zwT {i : Instr} {len e0 : Nat} (hf : zfe j pc = some (i, len)) (hp : zP (j / 200) i pc lv st = none) (hs : zS σ (j / 200) (zini j) i pc st M = none) (hr : zret j i st = none) (ht : zthr j pc = some e0) (hc : (Nat.ble (zsum st) 8 && znoH j) = true) (k : P (.inr e0) (zthM M)) : zW σ d j pc lv st M P := ⟨_, _, zeT hf hp hs hr ht hc, k⟩
/-- a call that returns -/
theorem zwC {i : Instr} {len j' : Nat} {as rest : List Value} {P1 : zO → zMem → Prop} (hf : zfe j pc = some (i, len)) (hp : zP (j / 200) i pc lv st = none) (hs : zS σ (j / 200) (zini j) i pc st M = none) (hr : zret j i st = none) (ht : zthr j pc = none) (hc : zcall (j / 200) i st M = some (j', as, rest)) (h1 : zT σ d j' as M P1)
    (k : ∀ v M1, P1 (.inl v) M1 → zW σ (d + 1) j (pc + 3) lv (v.toList ++ rest) M1 P) (kx : ∀ e0 M1, P1 (.inr e0) M1 → (zhnd j pc e0 = none ∧ znoH j = true ∧ P (.inr e0) M1) ∨ ∃ a, zhnd j pc e0 = some a ∧ P (.inl (some (.int (Int32.ofNat a)))) M1) : zW σ (d + 1) j pc lv st M P := by
  obtain ⟨o, M1, h2, h3⟩ := h1
  cases o with
  | inl v =>
    obtain ⟨o, M', h4, h5⟩ := k v M1 h3
    exact ⟨o, M', zeC hf hp hs hr ht hc h2 h4, h5⟩
  | inr e0 =>
    rcases kx e0 M1 h3 with ⟨a, b, c⟩ | ⟨a, b, c⟩
    · exact ⟨_, _, zeX hf hp hs hr ht hc h2 a b, c⟩
    · exact ⟨_, _, zeH hf hp hs hr ht hc h2 b, c⟩
/-- Math.max, Math.min -/
theorem zwM {i : Instr} {len pc' : Nat} {st' : List Value} (hf : zfe j pc = some (i, len)) (hp : zP (j / 200) i pc lv st = none) (hs : zS σ (j / 200) (zini j) i pc st M = none) (hr : zret j i st = none) (ht : zthr j pc = none) (hc : zcall (j / 200) i st M = none) (hm : zmath (j / 200) i pc st = some (pc', st')) (k : zW σ d j pc' lv st' M P) : zW σ d j pc lv st M P := by
  obtain ⟨o, M', h1, h2⟩ := k
  exact ⟨o, M', zeM hf hp hs hr ht hc hm h1, h2⟩
/-- two ways: a test of one int, of two -/
theorem zwB1 {k : ClassFile.Cond} {off : Int} {t : Nat} {x : Int32} (hf : zfe j pc = some (.ifCond k off, 3)) (ht : ztg pc off = some t) (kt : zc1 k x = true → zW σ d j t lv st M P) (kf : zc1 k x = false → zW σ d j (pc + 3) lv st M P) : zW σ d j pc lv (.int x :: st) M P := by
  cases hb : zc1 k x with
  | true => exact zwP (pc' := t) hf (by simp only [zP, zbr, ht, hb, Option.map_some, cond_true]) (kt hb)
  | false => exact zwP (pc' := pc + 3) hf (by simp only [zP, zbr, ht, hb, Option.map_some, cond_false]) (kf hb)
theorem zwB2 {k : ClassFile.Cond} {off : Int} {t : Nat} {x y : Int32} (hf : zfe j pc = some (.if_icmp k off, 3)) (ht : ztg pc off = some t) (kt : zc2 k x y = true → zW σ d j t lv st M P) (kf : zc2 k x y = false → zW σ d j (pc + 3) lv st M P) : zW σ d j pc lv (.int y :: .int x :: st) M P := by
  cases hb : zc2 k x y with
  | true => exact zwP (pc' := t) hf (by simp only [zP, zbr, ht, hb, Option.map_some, cond_true]) (kt hb)
  | false => exact zwP (pc' := pc + 3) hf (by simp only [zP, zbr, ht, hb, Option.map_some, cond_false]) (kf hb)
end ZWP
/-! runs that look at no row of the start: for the constructors, by the kernel -/
noncomputable def zS0 (c : Nat) (ini : Bool) (i : Instr) (pc : Nat) (st : List Value) (M : zMem) : Option (Nat × List Value × zMem) := match i with
  | .iaload => match st with
    | .int _ :: .ref a :: _ => bif Nat.blt a 1000 then zS (fun _ => (0, fun _ => 0)) c ini .iaload pc st M else none
    | _ => none
  | .arraylength => match st with
    | .ref a :: _ => bif Nat.blt a 1000 then zS (fun _ => (0, fun _ => 0)) c ini .arraylength pc st M else none
    | _ => none
  | i => zS (fun _ => (0, fun _ => 0)) c ini i pc st M
theorem zS0_up {c : Nat} {ini : Bool} {i : Instr} {pc : Nat} {st : List Value} {M : zMem} {r : Nat × List Value × zMem} (h : zS0 c ini i pc st M = some r) (σ : Nat → Nat × (Nat → Int32)) : zS σ c ini i pc st M = some r := by
  cases i
  case iaload =>
    simp only [zS0] at h
    split at h
    · rename_i x a t
      rw [cond_eq_ite] at h
      split at h
      · rename_i ha
        simp only [zS, ziald, ha, cond_true] at h ⊢
        exact h
      · cases h
    · cases h
  case arraylength =>
    simp only [zS0] at h
    split at h
    · rename_i a t
      rw [cond_eq_ite] at h
      split at h
      · rename_i ha
        simp only [zS, zalen, ha, cond_true] at h ⊢
        exact h
      · cases h
    · cases h
  all_goals exact h
noncomputable def zisC (i : Instr) : Bool := match i with
  | .invokevirtual _ => true
  | .invokespecial _ => true
  | _ => false
noncomputable def zisR (i : Instr) : Bool := match i with
  | .ireturn => true
  | .areturn => true
  | .return_ => true
  | _ => false
noncomputable def zrun0 : Nat → Nat → Nat → Nat → zLv → List Value → zMem → Option (Option Value × zMem)
  | 0, _, _, _, _, _, _ => none
  | n + 1, d, j, pc, lv, st, M => match zfe j pc with
    | none => none
    | some (i, _) => match zP (j / 200) i pc lv st with
      | some (pc', lv', st') => zrun0 n d j pc' lv' st' M
      | none => match zS0 (j / 200) (zini j) i pc st M with
        | some (pc', st', M') => zrun0 n d j pc' lv st' M'
        | none => match zret j i st with
          | some v => bif zisR i then some (v, M) else none
          | none => match zthr j pc with
            | some _ => none
            | none => bif zisC i then (match zcall (j / 200) i st M with
                | none => none
                | some (j', as, rest) => match d with
                  | 0 => none
                  | d' + 1 => match zrun0 n d' j' 0 (zarg j' as) [] M with
                    | none => none
                    | some (v, M') => zrun0 n (d' + 1) j (pc + 3) lv (v.toList ++ rest) M') else none
theorem zS_of0 {c : Nat} {ini : Bool} {i : Instr} {pc : Nat} {st : List Value} {M : zMem} (σ : Nat → Nat × (Nat → Int32)) (h : zS0 c ini i pc st M = none) (hi : i ≠ .iaload) (hi2 : i ≠ .arraylength) : zS σ c ini i pc st M = none := by
  cases i
  case iaload => exact absurd rfl hi
  case arraylength => exact absurd rfl hi2
  all_goals exact h
theorem zrun0_up (σ : Nat → Nat × (Nat → Int32)) : ∀ (n d j pc : Nat) (lv : zLv) (st : List Value) (M : zMem) (v : Option Value) (M' : zMem), zrun0 n d j pc lv st M = some (v, M') → zrun σ n d j pc lv st M = some (.inl v, M') := by
  intro n
  induction n with
  | zero => intro d j pc lv st M v M' h; cases h
  | succ n ih =>
    intro d j pc lv st M v M' h
    rw [zrun0] at h
    rw [zrun]
    cases hf : zfe j pc with
    | none => simp only [hf] at h; cases h
    | some x =>
      obtain ⟨i, len⟩ := x
      simp only [hf] at h ⊢
      cases hp : zP (j / 200) i pc lv st with
      | some y =>
        obtain ⟨a, b, c⟩ := y
        simp only [hp] at h ⊢
        exact ih _ _ _ _ _ _ _ _ h
      | none =>
        simp only [hp] at h ⊢
        cases hs : zS0 (j / 200) (zini j) i pc st M with
        | some y =>
          obtain ⟨a, b, c⟩ := y
          simp only [hs] at h
          simp only [zS0_up hs σ]
          exact ih _ _ _ _ _ _ _ _ h
        | none =>
          simp only [hs] at h
          cases hr : zret j i st with
          | some w =>
            simp only [hr] at h
            cases hb : zisR i with
            | false => rw [hb, cond_false] at h; cases h
            | true =>
              rw [hb, cond_true] at h
              cases h
              rw [zS_of0 σ hs (fun e => by rw [e] at hb; cases hb) (fun e => by rw [e] at hb; cases hb)]
          | none =>
            simp only [hr] at h
            cases ht : zthr j pc with
            | some e0 => simp only [ht] at h; cases h
            | none =>
              simp only [ht] at h
              cases hb : zisC i with
              | false => rw [hb, cond_false] at h; cases h
              | true =>
                rw [hb, cond_true] at h
                rw [zS_of0 σ hs (fun e => by rw [e] at hb; cases hb) (fun e => by rw [e] at hb; cases hb)]
                simp only []
                cases hc : zcall (j / 200) i st M with
                | none => simp only [hc] at h; cases h
                | some y =>
                  obtain ⟨j', as, rest⟩ := y
                  simp only [hc] at h ⊢
                  cases d with
                  | zero => simp only at h; cases h
                  | succ d =>
                    simp only at h ⊢
                    cases hz : zrun0 n d j' 0 (zarg j' as) [] M with
                    | none => simp only [hz] at h; cases h
                    | some z =>
                      obtain ⟨w, M1⟩ := z
                      simp only [hz] at h
                      simp only [ih _ _ _ _ _ _ _ _ hz]
                      exact ih _ _ _ _ _ _ _ _ h
