noncomputable def zinis : List Nat := [0, 200, 400, 600, 800, 1000, 1200, 1400, 1600, 1805]
noncomputable def zini (j : Nat) : Bool := zinis.contains j
noncomputable def znac : Nat → List Nat := fun c => match c with
  | 0 => [0, 1, 3, 0, 1, 1, 0, 3, 1]
  | 1 => [1, 1, 1, 1]
  | 2 => [0, 1, 4, 2]
  | 3 => [0, 1, 1, 1, 1, 2, 1, 1, 0, 0, 1, 1, 2, 3, 3, 3, 3, 3, 2, 2, 3, 2, 3, 2, 2, 2, 1, 0, 0, 0, 0, 2]
  | 4 => [1, 0, 1, 0, 1, 1, 3, 2, 0]
  | 5 => [2, 1, 0, 1, 0, 0, 0, 0, 1, 0, 1, 1, 2]
  | 6 => [0, 1, 0, 2, 1, 1, 0, 0, 2, 0, 1, 0]
  | 7 => [0, 1, 1, 1, 2, 1]
  | 8 => [0, 5, 1, 1, 0, 0, 2, 2, 2, 2, 1, 2, 2, 1, 3, 1, 1, 1, 2, 2, 2, 1, 1, 1, 0, 3, 2, 2, 1, 1, 1, 2, 2, 1, 1, 0, 0, 1, 1, 1, 1, 1]
  | 9 => [2, 2, 3, 2, 1, 0, 2, 0, 0, 0, 2, 2, 1, 3, 1, 3, 1, 2, 2, 3, 2, 2, 2, 2, 3, 2, 2, 2, 2, 2, 2, 2, 2, 1, 3, 1, 0, 0, 0, 1, 0, 5, 1, 0, 2, 0, 0, 1, 1, 2, 3, 0, 1, 0, 0, 0, 0, 1, 1, 0, 0, 0, 0, 1, 1, 2, 1, 1, 2, 2, 1, 1, 2, 2, 2, 2, 1, 1, 2, 1, 2, 1, 3, 2, 2, 0, 0, 0, 1, 1, 1, 1, 1, 0, 4, 2, 2, 3, 1, 2, 1, 1, 4, 2, 1, 2, 1, 1, 1, 2, 1, 1]
  | 10 => [2, 4, 4, 4, 4, 3, 4, 4, 3, 5, 3, 3, 3, 4, 4, 3, 3, 4, 4, 3, 3, 4, 4, 3, 1]
  | 11 => [1]
  | 12 => [2, 2, 2]
  | _ => []
noncomputable def zna (j : Nat) : Nat := (znac (j / 200)).getD (j % 200) 0
/-- what is caught where: method, pc of the call, exception, answer, which row of the table, its handler, how the exception is stored, where -/
noncomputable def zhd : List (Nat × Nat × Nat × Nat × Nat × Nat × Nat × Nat) := [(2000, 3, 2, 1, 0, 11, 1, 2), (2000, 3, 3, 2, 1, 14, 1, 2), (2001, 5, 0, 1, 0, 13, 0, 4), (2001, 5, 1, 2, 1, 17, 0, 4), (2002, 5, 0, 1, 0, 13, 0, 4), (2003, 5, 0, 1, 0, 13, 0, 4), (2003, 5, 1, 2, 1, 17, 0, 4), (2004, 5, 0, 1, 0, 13, 0, 4), (2004, 5, 1, 2, 1, 17, 0, 4), (2005, 4, 0, 1, 0, 12, 1, 3), (2006, 5, 0, 1, 0, 13, 0, 4), (2007, 5, 0, 1, 0, 13, 0, 4), (2007, 5, 1, 2, 1, 17, 0, 4), (2008, 4, 1, 1, 0, 12, 1, 3), (2009, 7, 0, 1, 0, 15, 0, 5), (2009, 7, 1, 2, 1, 19, 0, 5), (2010, 4, 0, 1, 0, 12, 1, 3), (2010, 4, 4, 2, 1, 15, 1, 3), (2011, 4, 2, 1, 0, 12, 1, 3), (2012, 4, 2, 1, 0, 12, 1, 3), (2013, 5, 0, 1, 0, 13, 0, 4), (2013, 5, 2, 2, 1, 17, 0, 4), (2014, 5, 1, 1, 0, 13, 0, 4), (2014, 5, 2, 2, 1, 17, 0, 4), (2015, 4, 0, 1, 0, 12, 1, 3), (2016, 4, 1, 1, 0, 12, 1, 3), (2017, 5, 0, 1, 0, 13, 0, 4), (2017, 5, 1, 2, 1, 17, 0, 4), (2018, 5, 0, 1, 0, 13, 0, 4), (2018, 5, 2, 2, 1, 17, 0, 4), (2019, 4, 0, 1, 0, 12, 1, 3), (2020, 4, 0, 1, 0, 12, 1, 3), (2021, 5, 1, 1, 0, 13, 0, 4), (2022, 5, 1, 1, 0, 13, 0, 4), (2023, 4, 0, 1, 0, 12, 1, 3)]
noncomputable def zarg (j : Nat) (as : List Value) : zLv := match zent j with
  | some q => as.map some ++ List.replicate (q.2.2.1 - as.length) none
  | none => []
noncomputable def zret (j : Nat) (i : Instr) (st : List Value) : Option (Option Value) := match zent j with
  | some q => match i with
    | .ireturn => match st with
      | [.int v] => match q.2.2.2.1 with
        | some .int => some (some (.int v))
        | some .boolean => if v = 0 ∨ v = 1 then some (some (.int v)) else none
        | _ => none
      | _ => none
    | .areturn => match st with
      | [.ref a] => match q.2.2.2.1 with
        | some (.object _) => some (some (.ref a))
        | _ => none
      | _ => none
    | .return_ => match st with
      | [] => match q.2.2.2.1 with
        | none => some none
        | _ => none
      | _ => none
    | _ => none
  | none => none
noncomputable def zsum (st : List Value) : Nat := (st.map fun v => v.category).sum
noncomputable def zthr (j pc : Nat) : Option Nat := (zth.find? (fun t => t.1 == j && t.2.1 == pc)).map (fun t => t.2.2.1)
noncomputable def zhnd (j pc e : Nat) : Option Nat := (zhd.find? (fun t => t.1 == j && t.2.1 == pc && t.2.2.1 == e)).map (fun t => t.2.2.2.1)
noncomputable def zsp (j n : Nat) (st : List Value) : Option (Nat × List Value × List Value) := bif Nat.ble n st.length && Nat.ble (zsum (st.drop n)) 8 && (st.take n).all (fun v => v.category == 1) then some (j, (st.take n).reverse, st.drop n) else none
/-- Math.floorMod -/
noncomputable def zfm (x y : Int32) : Int32 := if ¬ 0 ≤ (x ^^^ y) ∧ ¬ (x - x / y * y = 0) then x - x / y * y + y else x - x / y * y
/-- Math.max, Math.min, Math.floorMod, String.length, String.charAt -/
noncomputable def zmath (c : Nat) (i : Instr) (pc : Nat) (st : List Value) : Option (Nat × List Value) := match i with
  | .invokestatic idx => match (zmp c).lookup idx with
    | some (1, 2401, _) => match st with
      | .int y :: .int x :: r => bif Nat.ble (zsum r) 8 then some (pc + 3, .int (if x < y then y else x) :: r) else none
      | _ => none
    | some (1, 2402, _) => match st with
      | .int y :: .int x :: r => bif Nat.ble (zsum r) 8 then some (pc + 3, .int (if y < x then y else x) :: r) else none
      | _ => none
    | some (1, 2400, _) => match st with
      | .int y :: .int x :: r => bif Nat.ble (zsum r) 8 && decide (¬ y = 0) then some (pc + 3, .int (zfm x y) :: r) else none
      | _ => none
    | _ => none
  | .invokevirtual idx => match (zmp c).lookup idx with
    | some (6, _, _) => match st with
      | .ref a :: r => bif Nat.ble 1100 a && Nat.ble (zsum r) 8 then match zlit[a - 1100]? with
          | some q => some (pc + 3, .int (Int32.ofNat q.2.2.2.2.length) :: r)
          | none => none
        else none
      | _ => none
    | some (7, _, _) => match st with
      | .int i :: .ref a :: r => bif Nat.ble 1100 a && Nat.ble (zsum r) 8 then match zlit[a - 1100]? with
          | some q => bif !zoutB i q.2.2.2.2.length then some (pc + 3, .int (q.2.2.2.2.getD i.toNatClampNeg 0) :: r) else none
          | none => none
        else none
      | _ => none
    | _ => none
  | _ => none
noncomputable def zcall (c : Nat) (i : Instr) (st : List Value) (M : zMem) : Option (Nat × List Value × List Value) := match i with
  | .invokevirtual idx => match (zmp c).lookup idx with
    | some (0, j, _) => match zsp j (zna j + 1) st with
      | some (j, .ref b :: as, r) => match M.1[b]? with
        | some (kd, _, _) => bif kd == j / 200 then some (j, .ref b :: as, r) else none
        | none => none
      | _ => none
    | _ => none
  | .invokestatic idx => match (zmp c).lookup idx with
    | some (1, j, _) => bif Nat.blt j 2400 then zsp j (zna j) st else none
    | _ => none
  | .invokespecial idx => match (zmp c).lookup idx with
    | some (2, j, _) => match zsp j (zna j + 1) st with
      | some (j, .ref b :: as, r) => some (j, .ref b :: as, r)
      | _ => none
    | some (3, j, _) => match zsp j (zna j + 1) st with
      | some (j, .ref b :: as, r) => some (j, .ref b :: as, r)
      | _ => none
    | _ => none
  | _ => none
noncomputable def znoH (j : Nat) : Bool := match zent j with
  | some q => q.2.2.2.2.1.isEmpty
  | none => false
noncomputable def zthM (M : zMem) : zMem := (M.1, M.2.1, M.2.2.1, false, M.2.2.2.2.1 + 1, M.2.2.2.2.2 + 6)
noncomputable abbrev zO : Type := Option Value ⊕ Nat
noncomputable def zrun (σ : Nat → Nat × (Nat → Int32)) : Nat → Nat → Nat → Nat → zLv → List Value → zMem → Option (zO × zMem)
  | 0, _, _, _, _, _, _ => none
  | n + 1, d, j, pc, lv, st, M => match zfe j pc with
    | none => none
    | some (i, _) => match zP (j / 200) i pc lv st with
      | some (pc', lv', st') => zrun σ n d j pc' lv' st' M
      | none => match zS σ (j / 200) (zini j) i pc st M with
        | some (pc', st', M') => zrun σ n d j pc' lv st' M'
        | none => match zret j i st with
          | some v => some (.inl v, M)
          | none => match zthr j pc with
            | some e => bif Nat.ble (zsum st) 8 && znoH j then some (.inr e, zthM M) else none
            | none => match zcall (j / 200) i st M with
              | none => match zmath (j / 200) i pc st with
                | some (pc', st') => zrun σ n d j pc' lv st' M
                | none => none
              | some (j', as, rest) => match d with
                | 0 => none
                | d' + 1 => match zrun σ n d' j' 0 (zarg j' as) [] M with
                  | none => none
                  | some (.inl v, M') => zrun σ n (d' + 1) j (pc + 3) lv (v.toList ++ rest) M'
                  | some (.inr e, M') => match zhnd j pc e with
                    | some a => some (.inl (some (.int (Int32.ofNat a))), M')
                    | none => bif znoH j then some (.inr e, M') else none
noncomputable def zLe (M M' : zMem) : Prop := M.2.2.2.2.1 ≤ M'.2.2.2.2.1 ∧ M.2.2.2.2.2 ≤ M'.2.2.2.2.2 ∧ (M'.2.2.2.1 = true → M.2.2.2.1 = true ∧ M'.2.2.2.2.1 + M.1.length = M.2.2.2.2.1 + M'.1.length)
theorem zLe.rf (M : zMem) : zLe M M := ⟨Nat.le_refl _, Nat.le_refl _, fun h => ⟨h, rfl⟩⟩
theorem zLe.tr {a b c : zMem} (h : zLe a b) (g : zLe b c) : zLe a c := ⟨Nat.le_trans h.1 g.1, Nat.le_trans h.2.1 g.2.1, fun q => by
  obtain ⟨g1, g2⟩ := g.2.2 q
  obtain ⟨h1, h2⟩ := h.2.2 g1
  exact ⟨h1, by omega⟩⟩
theorem zLe.same {M M' : zMem} (h : M'.2.2.2 = M.2.2.2) (h2 : M'.1.length = M.1.length) : zLe M M' := by
  unfold zLe
  rw [h, h2]
  exact ⟨Nat.le_refl _, Nat.le_refl _, fun q => ⟨q, rfl⟩⟩
theorem zLe.push (q : Nat × Nat × List Nat) (n : Nat) (M : zMem) : zLe M (zpush q n M) := ⟨Nat.le_succ _, Nat.le_add_right _ _, fun h => ⟨h, by show M.2.2.2.2.1 + 1 + M.1.length = M.2.2.2.2.1 + (M.1 ++ [q]).length; simp; omega⟩⟩
theorem zS_le {σ : Nat → Nat × (Nat → Int32)} {c : Nat} {ini : Bool} {i : Instr} {pc pc' : Nat} {st st' : List Value} {M M' : zMem} (h : zS σ c ini i pc st M = some (pc', st', M')) : zLe M M' := by
  cases i
  case getfield idx =>
    simp only [zS, zgetf] at h
    repeat' split at h
    all_goals first | (cases h; done) | (simp only [cond_eq_ite] at h; repeat' split at h) | skip
    all_goals first | (cases h; exact zLe.rf _) | (cases h; done)
  case putfield idx =>
    simp only [zS, zputf] at h
    repeat' split at h
    all_goals first | (cases h; done) | (simp only [cond_eq_ite] at h; repeat' split at h) | skip
    all_goals first | (cases h; exact zLe.same rfl (by simp)) | (cases h; done)
  case iaload =>
    simp only [zS, ziald, cond_eq_ite] at h
    repeat' split at h
    all_goals first | (cases h; exact zLe.rf _) | (cases h; done)
  case baload =>
    simp only [zS, zbald, cond_eq_ite] at h
    repeat' split at h
    all_goals first | (cases h; exact zLe.rf _) | (cases h; done)
  case laload =>
    simp only [zS, zlald, cond_eq_ite] at h
    repeat' split at h
    all_goals first | (cases h; exact zLe.rf _) | (cases h; done)
  case aaload =>
    simp only [zS, zaald, cond_eq_ite] at h
    repeat' split at h
    all_goals first | (cases h; exact zLe.rf _) | (cases h; done)
  case iastore =>
    simp only [zS, ziast, cond_eq_ite] at h
    repeat' split at h
    all_goals first | (cases h; exact zLe.same rfl (by simp)) | (cases h; done)
  case bastore =>
    simp only [zS, zbast, cond_eq_ite] at h
    repeat' split at h
    all_goals first | (cases h; exact zLe.same rfl (by simp)) | (cases h; done)
  case lastore =>
    simp only [zS, zlast, cond_eq_ite] at h
    repeat' split at h
    all_goals first | (cases h; exact zLe.same rfl (by simp)) | (cases h; done)
  case aastore =>
    simp only [zS, zaast, cond_eq_ite] at h
    repeat' split at h
    all_goals first | (cases h; exact zLe.same rfl (by simp)) | (cases h; done)
  case arraylength =>
    simp only [zS, zalen, cond_eq_ite] at h
    repeat' split at h
    all_goals first | (cases h; exact zLe.rf _) | (cases h; done)
  case new idx =>
    simp only [zS, znew, cond_eq_ite] at h
    repeat' split at h
    all_goals first | (cases h; exact zLe.push _ _ _) | (cases h; done)
  case newarray t =>
    simp only [zS, znewa, cond_eq_ite] at h
    repeat' split at h
    all_goals first | (cases h; exact zLe.push _ _ _) | (cases h; done)
  case anewarray idx =>
    simp only [zS, zanew, cond_eq_ite] at h
    repeat' split at h
    all_goals first | (cases h; exact zLe.push _ _ _) | (cases h; done)
  case getstatic idx =>
    simp only [zS, zgets] at h
    repeat' split at h
    all_goals first | (cases h; exact zLe.rf _) | (cases h; done)
  case invokespecial idx =>
    simp only [zS, zoin, cond_eq_ite] at h
    repeat' split at h
    all_goals first | (cases h; exact zLe.rf _) | (cases h; done)
  case invokestatic idx =>
    simp only [zS, zacp, cond_eq_ite] at h
    repeat' split at h
    all_goals first | (cases h; exact zLe.same rfl (by simp)) | (cases h; done)
  case ldc idx =>
    simp only [zS, zldS] at h
    repeat' split at h
    all_goals first | (cases h; exact zLe.rf _) | (cases h; done)
  case ldc_w idx =>
    simp only [zS, zldS] at h
    repeat' split at h
    all_goals first | (cases h; exact zLe.rf _) | (cases h; done)
  all_goals cases h
theorem zrun_le {σ : Nat → Nat × (Nat → Int32)} : ∀ (n d j pc : Nat) (lv : zLv) (st : List Value) (M : zMem) (o : zO) (M' : zMem), zrun σ n d j pc lv st M = some (o, M') → zLe M M' := by
  intro n
  induction n with
  | zero => intro d j pc lv st M o M' h; cases h
  | succ n ih =>
    intro d j pc lv st M o M' h
    rw [zrun] at h
    split at h
    · cases h
    · split at h
      · exact ih _ _ _ _ _ _ _ _ h
      · split at h
        · rename_i hS
          exact (zS_le hS).tr (ih _ _ _ _ _ _ _ _ h)
        · split at h
          · cases h; exact zLe.rf _
          · split at h
            · rw [cond_eq_ite] at h
              split at h
              · cases h
                exact ⟨Nat.le_succ _, Nat.le_add_right _ _, fun q => nomatch q⟩
              · cases h
            · split at h
              · split at h
                · exact ih _ _ _ _ _ _ _ _ h
                · cases h
              · split at h
                · cases h
                · split at h
                  · cases h
                  · rename_i hr
                    exact (ih _ _ _ _ _ _ _ _ hr).tr (ih _ _ _ _ _ _ _ _ h)
                  · rename_i hr
                    split at h
                    · cases h
                      exact ih _ _ _ _ _ _ _ _ hr
                    · rw [cond_eq_ite] at h
                      split at h
                      · cases h
                        exact ih _ _ _ _ _ _ _ _ hr
                      · cases h
noncomputable def znm : List String := ["java/lang/RuntimeException", "java/lang/Exception"]
/-- what is checked of each method: its words stand in the tables -/
noncomputable def zmok (c i : Nat) (q : zMt) (pl : Nat × Nat × Nat × Nat) : Bool :=
  decide (q.1.cls = zcn c) && plainName q.1.cls && decide (q.1.cls ≠ "java/lang/invoke/MethodHandle") && decide (q.1.cls ≠ "java/lang/invoke/VarHandle") &&
  (if q.2.2.2.2.1 = [] then decide (lw_tbl[pl.1]? = some (.code q.1 q.2.1 q.2.2.1 q.2.2.2.1)) else decide (lw_tbl[pl.1]? = some (.codeWith q.1 q.2.1 q.2.2.1 q.2.2.2.1 q.2.2.2.2.1))) &&
  decide (lw_tbl[pl.2.2.2]? = some (.initialized q.1.cls)) && decide ((parseMethodDescriptor q.1.desc).map (fun d => d.parameters.length) = some (zna (200 * c + i))) &&
  (decide (lw_tbl[pl.2.1]? = some (.static q.1)) || decide (lw_tbl[pl.2.1]? = some (.instanceMethod q.1))) &&
  (decide (lw_tbl[pl.2.1]? = some (.static q.1)) || zini (200 * c + i) || decide (lw_tbl[pl.2.2.1]? = some (.selects q.1.cls q.1 q.1))) &&
  (if zini (200 * c + i) then decide (q.1.name = "<init>") else true) && Nat.ble q.2.2.1 20 && Nat.ble (zna (200 * c + i) + 1) q.2.2.1.succ
