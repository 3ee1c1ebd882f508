/-! runs without counting: zEv, and a rule for each kind of step -/
theorem zrun_mono {σ : Nat → Nat × (Nat → Int32)} : ∀ (n d j pc : Nat) (lv : zLv) (st : List Value) (M : zMem) (r : zO × zMem), zrun σ n d j pc lv st M = some r → zrun σ (n + 1) d j pc lv st M = some r := by
  intro n
  induction n with
  | zero => intro d j pc lv st M r h; cases h
  | succ n ih =>
    intro d j pc lv st M r h
    rw [zrun] at h ⊢
    cases hf : zfe j pc with
    | none => simp only [hf] at h; cases h
    | some x =>
      obtain ⟨i, len⟩ := x
      simp only [hf] at h ⊢
      cases hp : zP (j / 200) i pc lv st with
      | some y =>
        obtain ⟨a, b, c⟩ := y
        simp only [hp] at h ⊢
        exact ih _ _ _ _ _ _ _ h
      | none =>
        simp only [hp] at h ⊢
        cases hs : zS σ (j / 200) (zini j) i pc st M with
        | some y =>
          obtain ⟨a, b, c⟩ := y
          simp only [hs] at h ⊢
          exact ih _ _ _ _ _ _ _ h
        | none =>
          simp only [hs] at h ⊢
          cases hr : zret j i st with
          | some v => simp only [hr] at h ⊢; exact h
          | none =>
            simp only [hr] at h ⊢
            cases ht : zthr j pc with
            | some e0 => simp only [ht] at h ⊢; exact h
            | none =>
              simp only [ht] at h ⊢
              cases hc : zcall (j / 200) i st M with
              | none =>
                simp only [hc] at h ⊢
                cases hm : zmath (j / 200) i pc st with
                | none => simp only [hm] at h; cases h
                | some y =>
                  obtain ⟨a, b⟩ := y
                  simp only [hm] at h ⊢
                  exact ih _ _ _ _ _ _ _ h
              | some y =>
                obtain ⟨j', as, rest⟩ := y
                simp only [hc] at h ⊢
                cases d with
                | zero => simp only at h; cases h
                | succ d =>
                  simp only at h ⊢
                  cases hz : zrun σ n d j' 0 (zarg j' as) [] M with
                  | none => simp only [hz] at h; cases h
                  | some z =>
                    rw [ih _ _ _ _ _ _ _ hz]
                    obtain ⟨o, M1⟩ := z
                    simp only [hz] at h
                    cases o with
                    | inl v =>
                      simp only at h ⊢
                      exact ih _ _ _ _ _ _ _ h
                    | inr e0 =>
                      simp only at h ⊢
                      exact h
theorem zrun_up {σ : Nat → Nat × (Nat → Int32)} {n k d j pc : Nat} {lv : zLv} {st : List Value} {M : zMem} {r : zO × zMem} (h : zrun σ n d j pc lv st M = some r) (hk : n ≤ k) : zrun σ k d j pc lv st M = some r := by
  induction hk with
  | refl => exact h
  | step _ ih => exact zrun_mono _ _ _ _ _ _ _ _ ih
noncomputable def zEv (σ : Nat → Nat × (Nat → Int32)) (d j pc : Nat) (lv : zLv) (st : List Value) (M : zMem) (o : zO) (M' : zMem) : Prop := ∃ n, zrun σ n d j pc lv st M = some (o, M')
/-- a method's call -/
noncomputable def zCal (σ : Nat → Nat × (Nat → Int32)) (d j : Nat) (as : List Value) (M : zMem) (o : zO) (M' : zMem) : Prop := zEv σ d j 0 (zarg j as) [] M o M'
section ZE
variable {σ : Nat → Nat × (Nat → Int32)} {d j pc : Nat} {lv : zLv} {st : List Value} {M : zMem} {o : zO} {M' : zMem}
theorem zeP {i : Instr} {len pc' : Nat} {lv' : zLv} {st' : List Value} (hf : zfe j pc = some (i, len)) (hp : zP (j / 200) i pc lv st = some (pc', lv', st')) (k : zEv σ d j pc' lv' st' M o M') : zEv σ d j pc lv st M o M' := by
  obtain ⟨n, h⟩ := k
  refine ⟨n + 1, ?_⟩
  rw [zrun]
  simp only [hf, hp]
  exact h
theorem zeS {i : Instr} {len pc' : Nat} {st' : List Value} {M1 : zMem} (hf : zfe j pc = some (i, len)) (hp : zP (j / 200) i pc lv st = none) (hs : zS σ (j / 200) (zini j) i pc st M = some (pc', st', M1)) (k : zEv σ d j pc' lv st' M1 o M') : zEv σ d j pc lv st M o M' := by
  obtain ⟨n, h⟩ := k
  refine ⟨n + 1, ?_⟩
  rw [zrun]
  simp only [hf, hp, hs]
  exact h
theorem zeR {i : Instr} {len : Nat} {v : Option Value} (hf : zfe j pc = some (i, len)) (hp : zP (j / 200) i pc lv st = none) (hs : zS σ (j / 200) (zini j) i pc st M = none) (hr : zret j i st = some v) : zEv σ d j pc lv st M (.inl v) M := by
  refine ⟨1, ?_⟩
  rw [zrun]
  simp only [hf, hp, hs, hr]
theorem zeT {i : Instr} {len e0 : Nat} (hf : zfe j pc = some (i, len)) (hp : zP (j / 200) i pc lv st = none) (hs : zS σ (j / 200) (zini j) i pc st M = none) (hr : zret j i st = none) (ht : zthr j pc = some e0) (hc : (Nat.ble (zsum st) 8 && znoH j) = true) : zEv σ d j pc lv st M (.inr e0) (zthM M) := by
  refine ⟨1, ?_⟩
  rw [zrun]
  simp only [hf, hp, hs, hr, ht, hc, cond_true]
theorem zeC {i : Instr} {len j' : Nat} {as rest : List Value} {v : Option Value} {M1 : zMem} (hf : zfe j pc = some (i, len)) (hp : zP (j / 200) i pc lv st = none) (hs : zS σ (j / 200) (zini j) i pc st M = none) (hr : zret j i st = none) (ht : zthr j pc = none) (hc : zcall (j / 200) i st M = some (j', as, rest)) (h1 : zCal σ d j' as M (.inl v) M1) (k : zEv σ (d + 1) j (pc + 3) lv (v.toList ++ rest) M1 o M') : zEv σ (d + 1) j pc lv st M o M' := by
  obtain ⟨n1, h1⟩ := h1
  obtain ⟨n2, h2⟩ := k
  refine ⟨max n1 n2 + 1, ?_⟩
  rw [zrun]
  simp only [hf, hp, hs, hr, ht, hc, zrun_up h1 (Nat.le_max_left n1 n2)]
  exact zrun_up h2 (Nat.le_max_right n1 n2)
theorem zeX {i : Instr} {len j' e0 : Nat} {as rest : List Value} {M1 : zMem} (hf : zfe j pc = some (i, len)) (hp : zP (j / 200) i pc lv st = none) (hs : zS σ (j / 200) (zini j) i pc st M = none) (hr : zret j i st = none) (ht : zthr j pc = none) (hc : zcall (j / 200) i st M = some (j', as, rest)) (h1 : zCal σ d j' as M (.inr e0) M1) (hh : zhnd j pc e0 = none) (hn : znoH j = true) : zEv σ (d + 1) j pc lv st M (.inr e0) M1 := by
  obtain ⟨n1, h1⟩ := h1
  refine ⟨n1 + 1, ?_⟩
  rw [zrun]
  have h1' : zrun σ n1 d j' 0 (zarg j' as) [] M = some (.inr e0, M1) := h1
  simp only [hf, hp, hs, hr, ht, hc, h1', hh, hn, cond_true]
theorem zeH {i : Instr} {len j' e0 a : Nat} {as rest : List Value} {M1 : zMem} (hf : zfe j pc = some (i, len)) (hp : zP (j / 200) i pc lv st = none) (hs : zS σ (j / 200) (zini j) i pc st M = none) (hr : zret j i st = none) (ht : zthr j pc = none) (hc : zcall (j / 200) i st M = some (j', as, rest)) (h1 : zCal σ d j' as M (.inr e0) M1) (hh : zhnd j pc e0 = some a) : zEv σ (d + 1) j pc lv st M (.inl (some (.int (Int32.ofNat a)))) M1 := by
  obtain ⟨n1, h1⟩ := h1
  refine ⟨n1 + 1, ?_⟩
  rw [zrun]
  have h1' : zrun σ n1 d j' 0 (zarg j' as) [] M = some (.inr e0, M1) := h1
  simp only [hf, hp, hs, hr, ht, hc, h1', hh]
theorem zeM {i : Instr} {len pc' : Nat} {st' : List Value} (hf : zfe j pc = some (i, len)) (hp : zP (j / 200) i pc lv st = none) (hs : zS σ (j / 200) (zini j) i pc st M = none) (hr : zret j i st = none) (ht : zthr j pc = none) (hc : zcall (j / 200) i st M = none) (hm : zmath (j / 200) i pc st = some (pc', st')) (k : zEv σ d j pc' lv st' M o M') : zEv σ d j pc lv st M o M' := by
  obtain ⟨n, h⟩ := k
  refine ⟨n + 1, ?_⟩
  rw [zrun]
  simp only [hf, hp, hs, hr, ht, hc, hm]
  exact h
end ZE
