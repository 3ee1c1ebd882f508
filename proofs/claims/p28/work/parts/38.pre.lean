/-! from the law's entry to its loop -/
theorem zrun_dep {σ : Nat → Nat × (Nat → Int32)} : ∀ (n d j pc : Nat) (lv : zLv) (st : List Value) (M : zMem) (r : zO × zMem), zrun σ n d j pc lv st M = some r → zrun σ n (d + 1) j pc lv st M = some r := by
  intro n
  induction n with
  | zero => intro d j pc lv st M r h; cases h
  | succ n ih =>
    intro d j pc lv st M r h
    rw [zrun] at h ⊢
    cases hf : zfe j pc with
    | none => simp only [hf] at h; cases h
    | some x =>
      obtain ⟨i, len⟩ := x
      simp only [hf] at h ⊢
      cases hp : zP (j / 200) i pc lv st with
      | some y =>
        obtain ⟨a, b, c⟩ := y
        simp only [hp] at h ⊢
        exact ih _ _ _ _ _ _ _ h
      | none =>
        simp only [hp] at h ⊢
        cases hs : zS σ (j / 200) (zini j) i pc st M with
        | some y =>
          obtain ⟨a, b, c⟩ := y
          simp only [hs] at h ⊢
          exact ih _ _ _ _ _ _ _ h
        | none =>
          simp only [hs] at h ⊢
          cases hr : zret j i st with
          | some v => simp only [hr] at h ⊢; exact h
          | none =>
            simp only [hr] at h ⊢
            cases ht : zthr j pc with
            | some e0 => simp only [ht] at h ⊢; exact h
            | none =>
              simp only [ht] at h ⊢
              cases hc : zcall (j / 200) i st M with
              | none =>
                simp only [hc] at h ⊢
                cases hm : zmath (j / 200) i pc st with
                | none => simp only [hm] at h; cases h
                | some y =>
                  obtain ⟨a, b⟩ := y
                  simp only [hm] at h ⊢
                  exact ih _ _ _ _ _ _ _ h
              | some y =>
                obtain ⟨j', as, rest⟩ := y
                simp only [hc] at h ⊢
                cases d with
                | zero => simp only at h; cases h
                | succ d =>
                  simp only at h
                  cases hz : zrun σ n d j' 0 (zarg j' as) [] M with
                  | none => simp only [hz] at h; cases h
                  | some z =>
                    rw [ih _ _ _ _ _ _ _ hz]
                    obtain ⟨o, M1⟩ := z
                    simp only [hz] at h
                    cases o with
                    | inl v =>
                      simp only at h ⊢
                      exact ih _ _ _ _ _ _ _ h
                    | inr e0 =>
                      simp only at h ⊢
                      exact h
theorem zCal_dep {σ : Nat → Nat × (Nat → Int32)} {d j : Nat} {as : List Value} {M M' : zMem} {o : zO} (h : zCal σ d j as M o M') : ∀ k, zCal σ (d + k) j as M o M' := by
  intro k
  induction k with
  | zero => exact h
  | succ k ih =>
    obtain ⟨n, hn⟩ := ih
    exact ⟨n, zrun_dep _ _ _ _ _ _ _ _ hn⟩
def zlw0 : zLv := [some (.ref 1000), some (.ref 0), some (.ref 137), some (.ref 146), some (.int 0), none, none]
theorem znew_1 {σ : Nat → Nat × (Nat → Int32)} : zS σ 10 false (.new 8) 0 [] zMe = some (3, [.ref 0], zA1) := rfl
theorem znew_2 {σ : Nat → Nat × (Nat → Int32)} : zS σ 10 false (.new 96) 8 [] zM1 = some (11, [.ref 137], zA2) := by
  have h : (zcp 10).lookup 96 = some (9, 1291) := rfl
  simp only [zS, znew, h, zM1_len.1, zM1_len.2, Bool.true_and]
  rfl
theorem znew_3 {σ : Nat → Nat × (Nat → Int32)} : zS σ 10 false (.newarray .long) 17 [.int (Int32.ofInt 1)] zM2 = some (19, [.ref 146], zM3) := by
  have h : (Int32.ofInt 1).toNatClampNeg = 1 := by decide
  have h2 : decide (¬ Int32.ofInt 1 < 0) = true := by decide
  simp only [zS, znewa, h, h2, zM2_len.1, zM2_len.2, Bool.true_and]
  rfl
theorem zlaw_pre {σ : Nat → Nat × (Nat → Int32)} {o : zO} {M' : zMem} (h : zEv σ 20 2024 23 zlw0 [] zM3 o M') : zEv σ 20 2024 0 (zarg 2024 [.ref 1000]) [] zMe o M' := by
  have c1 : zCal σ 19 1600 [.ref 0] zA1 (.inl none) zM1 := zCal_dep (d := 10) ⟨3000, zrun0_up σ _ _ _ _ _ _ _ _ _ zR1_eq⟩ 9
  have c2 : zCal σ 19 1805 [.ref 137] zA2 (.inl none) zM2 := zCal_dep (d := 10) ⟨3000, zrun0_up σ _ _ _ _ _ _ _ _ _ zR2_eq⟩ 9
  show zEv σ 20 2024 0 [some (.ref 1000), none, none, none, none, none, none] [] zMe o M'
  refine zeS (i := .new 8) (len := 3) rfl rfl znew_1 ?_
  refine zeP (i := .dup) (len := 1) rfl rfl ?_
  refine zeC (i := .invokespecial 95) (len := 3) (j' := 1600) (as := [.ref 0]) (rest := [.ref 0]) rfl rfl rfl rfl rfl rfl c1 ?_
  show zEv σ 20 2024 7 [some (.ref 1000), none, none, none, none, none, none] [.ref 0] zM1 o M'
  refine zeP (i := .astore_n 1) (len := 1) rfl rfl ?_
  refine zeS (i := .new 96) (len := 3) rfl rfl znew_2 ?_
  refine zeP (i := .dup) (len := 1) rfl rfl ?_
  refine zeC (i := .invokespecial 98) (len := 3) (j' := 1805) (as := [.ref 137]) (rest := [.ref 137]) rfl rfl rfl rfl rfl rfl c2 ?_
  show zEv σ 20 2024 15 [some (.ref 1000), some (.ref 0), none, none, none, none, none] [.ref 137] zM2 o M'
  refine zeP (i := .astore_n 2) (len := 1) rfl rfl ?_
  refine zeP (i := .iconst 1) (len := 1) rfl rfl ?_
  refine zeS (i := .newarray .long) (len := 2) rfl rfl znew_3 ?_
  refine zeP (i := .astore_n 3) (len := 1) rfl rfl ?_
  refine zeP (i := .iconst 0) (len := 1) rfl rfl ?_
  refine zeP (i := .istore 4) (len := 2) rfl rfl ?_
  exact h
