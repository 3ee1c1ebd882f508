/-! the memory: what the cells are -/
noncomputable def zN (ci : Nat) : Nat := match vwCl[ci]? with
  | some q => q.2.2
  | none => 0
noncomputable def zrv (rs : List Nat) (k : Nat) : Option Nat := match rs[k]? with
  | some (b + 1) => some b
  | _ => none
noncomputable def zfv (G : zG) (m : Nat → Nat → Int32) (i kd : Nat) (rs : List Nat) (k : Nat) : Value := match (zft kd)[k]? with
  | some (2, _) => va_rf ((zrv rs k).map (zad G))
  | _ => .int (m i k)
noncomputable def zcell (G : zG) (m : Nat → Nat → Int32) (lf : Nat → Nat → Int64) (i : Nat) (q : Nat × Nat × List Nat) : va_E :=
  if q.1 < 10 then .inr (q.1, (List.range (zN q.1)).map (zfv G m i q.1 q.2.2))
  else if q.1 = 10 then .inl (G.2.1 0, q.2.1, .inl (m i))
  else if q.1 = 11 then .inl (G.2.1 1, q.2.1, .inl (m i))
  else if q.1 = 12 then .inl (G.2.1 2, q.2.1, .inr (.inr (.inr (.inr (fun k => (zrv q.2.2 k).map (zad G))))))
  else if q.1 = 13 then .inl (G.2.1 3, q.2.1, .inr (.inr (.inr (.inr (fun k => (zrv q.2.2 k).map (zad G))))))
  else .inl (G.2.1 4, q.2.1, .inr (.inl (lf i)))
noncomputable def zcel (G : zG) (M : zMem) (i : Nat) : va_E := zcell G M.2.1 M.2.2.1 i (M.1.getD i (0, 0, []))
noncomputable def zw (G : zG) (M : zMem) : va_W := (List.range M.1.length).map (fun i => (zad G i, zcel G M i))
noncomputable def zA (G : zG) : Nat → Prop := fun q => G.2.2.1 ≤ q
noncomputable def ztys (G : zG) : List (ClassId × FieldType) := [(G.2.1 0, .int), (G.2.1 1, .byte), (G.2.1 2, .object "ElidedLocks$Lock"), (G.2.1 3, .object "ElidedLocks$Strand"), (G.2.1 4, .long)]
noncomputable def zRel (G : zG) (M : zMem) (H : Heap) : Prop := va_P G.1 vwCl (zw G M) H ∧ M.1.length ≤ 1000
theorem zw_len (G : zG) (M : zMem) : (zw G M).length = M.1.length := by simp [zw]
theorem zw_at (G : zG) (M : zMem) {i : Nat} (h : i < M.1.length) : (zw G M)[i]? = some (zad G i, zcel G M i) := by
  simp [zw, h]
theorem zcel_eq {G : zG} {M : zMem} {i : Nat} {q : Nat × Nat × List Nat} (h : M.1[i]? = some q) : zcel G M i = zcell G M.2.1 M.2.2.1 i q := by
  unfold zcel
  rw [List.getD_eq_getElem?_getD, h]; rfl
theorem zw_get {G : zG} {M : zMem} {i : Nat} {q : Nat × Nat × List Nat} (h : M.1[i]? = some q) : (zw G M)[i]? = some (zad G i, zcell G M.2.1 M.2.2.1 i q) := by
  rw [zw_at G M (List.getElem?_eq_some_iff.mp h).1, zcel_eq h]
theorem zw_set {G : zG} {M M' : zMem} {i : Nat} {E : va_E} (hS : M'.1.length = M.1.length) (h1 : zcel G M' i = E) (h2 : ∀ j, j ≠ i → zcel G M' j = zcel G M j) : (zw G M).set i (zad G i, E) = zw G M' := by
  apply List.ext_getElem?
  intro j
  rw [List.getElem?_set, zw_len]
  by_cases hj : j < M.1.length
  · rw [zw_at G M' (by rw [hS]; exact hj), zw_at G M hj]
    by_cases hi : i = j
    · subst hi
      rw [if_pos rfl, if_pos hj, h1]
    · rw [if_neg hi, h2 j (fun e => hi e.symm)]
  · have e1 : (zw G M')[j]? = none := List.getElem?_eq_none (by rw [zw_len, hS]; exact Nat.le_of_not_lt hj)
    have e2 : (zw G M)[j]? = none := List.getElem?_eq_none (by rw [zw_len]; exact Nat.le_of_not_lt hj)
    rw [e1, e2]
    by_cases hi : i = j
    · subst hi
      rw [if_pos rfl, if_neg hj]
    · rw [if_neg hi]
theorem zw_push {G : zG} {M M' : zMem} {q : Nat × Nat × List Nat} {E : va_E} (hS : M'.1 = M.1 ++ [q]) (h1 : zcel G M' M.1.length = E) (h2 : ∀ j, j < M.1.length → zcel G M' j = zcel G M j) : zw G M ++ [(zad G M.1.length, E)] = zw G M' := by
  have hl : M'.1.length = M.1.length + 1 := by rw [hS]; simp
  apply List.ext_getElem?
  intro j
  by_cases hj : j < M.1.length
  · rw [List.getElem?_append_left (by rw [zw_len]; exact hj), zw_at G M hj, zw_at G M' (by omega), h2 j hj]
  · rw [List.getElem?_append_right (by rw [zw_len]; omega), zw_len]
    by_cases hk : j = M.1.length
    · subst hk
      rw [Nat.sub_self, zw_at G M' (by omega), h1]; rfl
    · rw [List.getElem?_eq_none (by simp; omega), List.getElem?_eq_none (by rw [zw_len]; omega)]
theorem zw_D (G : zG) (M : zMem) (h : M.1.length ≤ 1000) : va_D (zA G) (zw G M) := by
  have key : ∀ (i : Nat) (x : Nat × va_E), (zw G M)[i]? = some x → i < M.1.length ∧ x.1 = G.2.2.1 + i := by
    intro i x hx
    have hi : i < M.1.length := by rw [← zw_len G M]; exact (List.getElem?_eq_some_iff.mp hx).1
    rw [zw_at G M hi] at hx
    cases hx
    refine ⟨hi, ?_⟩
    show zad G i = _
    unfold zad
    rw [if_pos (by omega)]
  refine ⟨fun i j x y hx hy hxy => ?_, fun i x hx => ?_⟩
  · have a := (key i x hx).2
    have b := (key j y hy).2
    omega
  · rw [zA, (key i x hx).2]
    exact Nat.le_add_right _ _
theorem zfs_get {G : zG} {m : Nat → Nat → Int32} {i kd : Nat} {rs : List Nat} {k : Nat} (hk : k < zN kd) : ((List.range (zN kd)).map (zfv G m i kd rs))[k]? = some (zfv G m i kd rs k) := by
  simp [hk]
theorem zfs_set {G : zG} {m m' : Nat → Nat → Int32} {i kd : Nat} {rs rs' : List Nat} {k : Nat} {v : Value} (h1 : zfv G m' i kd rs' k = v) (h2 : ∀ j, j ≠ k → zfv G m' i kd rs' j = zfv G m i kd rs j) : ((List.range (zN kd)).map (zfv G m i kd rs)).set k v = (List.range (zN kd)).map (zfv G m' i kd rs') := by
  apply List.ext_getElem?
  intro j
  rw [List.getElem?_set]
  by_cases hj : j < zN kd
  · by_cases hk : k = j
    · subst hk
      simp [hj, h1]
    · rw [if_neg hk]
      simp [hj, h2 j (fun e => hk e.symm)]
  · by_cases hk : k = j
    · subst hk
      simp [hj]
    · rw [if_neg hk]
      simp [hj]
/-! the steps that read or write the memory -/
noncomputable def zm2 (m : Nat → Nat → Int32) (a k : Nat) (x : Int32) : Nat → Nat → Int32 := fun i => if i = a then upd (m a) k x else m i
noncomputable def zl2 (m : Nat → Nat → Int64) (a k : Nat) (x : Int64) : Nat → Nat → Int64 := fun i => if i = a then vp_updL (m a) k x else m i
noncomputable def zout (i : Int32) (n : Nat) : Prop := i < 0 ∨ n ≤ i.toNatClampNeg
noncomputable def zoutB (i : Int32) (n : Nat) : Bool := decide (i < 0) || decide (n ≤ i.toNatClampNeg)
theorem zoutB_f {i : Int32} {n : Nat} (h : zoutB i n = false) : vp_in i n := by
  unfold zoutB at h
  rw [Bool.or_eq_false_iff] at h
  exact fun q => q.elim (of_decide_eq_false h.1) (of_decide_eq_false h.2)
noncomputable def zgetf (c idx pc : Nat) (st : List Value) (M : zMem) : Option (Nat × List Value × zMem) := match (zfp c).lookup idx with
  | some (ci, k, _) => match st with
    | .ref a :: r => match M.1[a]? with
      | some (kd, _, rs) => bif kd == ci then match (zft ci)[k]? with
        | some (2, _) => match zrv rs k with
          | some b => some (pc + 3, .ref b :: r, M)
          | none => none
        | some _ => some (pc + 3, .int (M.2.1 a k) :: r, M)
        | none => none
        else none
      | none => none
    | _ => none
  | none => none
noncomputable def zputf (c : Nat) (ini : Bool) (idx pc : Nat) (st : List Value) (M : zMem) : Option (Nat × List Value × zMem) := match (zfp c).lookup idx with
  | some (ci, k, _) => match st with
    | .int x :: .ref a :: r => match M.1[a]? with
      | some (kd, _, _) => bif kd == ci then match (zft ci)[k]? with
        | some (0, false) => some (pc + 3, r, (M.1, zm2 M.2.1 a k x, M.2.2))
        | some (1, false) => if x = 0 ∨ x = 1 then some (pc + 3, r, (M.1, zm2 M.2.1 a k x, M.2.2)) else none
        | _ => none
        else none
      | none => none
    | .ref b :: .ref a :: r => match M.1[a]? with
      | some (kd, n, rs) => bif kd == ci && ini && ci == c && decide (k < rs.length) then match (zft ci)[k]? with
        | some (2, true) => some (pc + 3, r, (M.1.set a (kd, n, rs.set k (b + 1)), M.2))
        | _ => none
        else none
      | none => none
    | _ => none
  | none => none
noncomputable def ziald (σ : Nat → Nat × (Nat → Int32)) (pc : Nat) (st : List Value) (M : zMem) : Option (Nat × List Value × zMem) := match st with
  | .int i :: .ref a :: r => bif Nat.blt a 1000 then match M.1[a]? with
      | some (kd, n, _) => bif kd == 10 && !zoutB i n then some (pc + 1, .int (M.2.1 a i.toNatClampNeg) :: r, M) else none
      | none => none
    else bif Nat.blt a 1005 && !zoutB i (σ (a - 1000)).1 then some (pc + 1, .int ((σ (a - 1000)).2 i.toNatClampNeg) :: r, M) else none
  | _ => none
noncomputable def zbald (pc : Nat) (st : List Value) (M : zMem) : Option (Nat × List Value × zMem) := match st with
  | .int i :: .ref a :: r => match M.1[a]? with
      | some (kd, n, _) => bif kd == 11 && !zoutB i n then some (pc + 1, .int (M.2.1 a i.toNatClampNeg) :: r, M) else none
      | none => none
  | _ => none
noncomputable def zlald (pc : Nat) (st : List Value) (M : zMem) : Option (Nat × List Value × zMem) := match st with
  | .int i :: .ref a :: r => match M.1[a]? with
      | some (kd, n, _) => bif kd == 14 && !zoutB i n then some (pc + 1, .long (M.2.2.1 a i.toNatClampNeg) :: r, M) else none
      | none => none
  | _ => none
noncomputable def zaald (pc : Nat) (st : List Value) (M : zMem) : Option (Nat × List Value × zMem) := match st with
  | .int i :: .ref a :: r => match M.1[a]? with
      | some (kd, n, rs) => bif (kd == 12 || kd == 13) && !zoutB i n then match zrv rs i.toNatClampNeg with
          | some b => some (pc + 1, .ref b :: r, M)
          | none => none
        else none
      | none => none
  | _ => none
noncomputable def ziast (pc : Nat) (st : List Value) (M : zMem) : Option (Nat × List Value × zMem) := match st with
  | .int x :: .int i :: .ref a :: r => match M.1[a]? with
      | some (kd, n, _) => bif kd == 10 && !zoutB i n then some (pc + 1, r, (M.1, zm2 M.2.1 a i.toNatClampNeg x, M.2.2)) else none
      | none => none
  | _ => none
noncomputable def zbast (pc : Nat) (st : List Value) (M : zMem) : Option (Nat × List Value × zMem) := match st with
  | .int x :: .int i :: .ref a :: r => match M.1[a]? with
      | some (kd, n, _) => bif kd == 11 && !zoutB i n then some (pc + 1, r, (M.1, zm2 M.2.1 a i.toNatClampNeg (vp_nar .byte x), M.2.2)) else none
      | none => none
  | _ => none
noncomputable def zlast (pc : Nat) (st : List Value) (M : zMem) : Option (Nat × List Value × zMem) := match st with
  | .long x :: .int i :: .ref a :: r => match M.1[a]? with
      | some (kd, n, _) => bif kd == 14 && !zoutB i n then some (pc + 1, r, (M.1, M.2.1, zl2 M.2.2.1 a i.toNatClampNeg x, M.2.2.2)) else none
      | none => none
  | _ => none
noncomputable def zaast (pc : Nat) (st : List Value) (M : zMem) : Option (Nat × List Value × zMem) := match st with
  | .ref v :: .int i :: .ref a :: r => match M.1[a]?, M.1[v]? with
      | some (kd, n, rs), some (kv, _, _) => bif ((kd == 12 && kv == 1) || (kd == 13 && kv == 6)) && !zoutB i n && decide (i.toNatClampNeg < rs.length) then some (pc + 1, r, (M.1.set a (kd, n, rs.set i.toNatClampNeg (v + 1)), M.2)) else none
      | _, _ => none
  | _ => none
noncomputable def zalen (σ : Nat → Nat × (Nat → Int32)) (pc : Nat) (st : List Value) (M : zMem) : Option (Nat × List Value × zMem) := match st with
  | .ref a :: r => bif Nat.blt a 1000 then match M.1[a]? with
      | some (kd, n, _) => bif kd == 10 || kd == 11 then some (pc + 1, .int (Int32.ofNat n) :: r, M) else none
      | none => none
    else bif Nat.blt a 1005 then some (pc + 1, .int (Int32.ofNat (σ (a - 1000)).1) :: r, M) else none
  | _ => none
noncomputable def zpush (q : Nat × Nat × List Nat) (n : Nat) (M : zMem) : zMem := (M.1 ++ [q], (fun i => if i = M.1.length then fun _ => 0 else M.2.1 i), (fun i => if i = M.1.length then fun _ => 0 else M.2.2.1 i), M.2.2.2.1, M.2.2.2.2.1 + 1, M.2.2.2.2.2 + n)
noncomputable def znew (c idx pc : Nat) (st : List Value) (M : zMem) : Option (Nat × List Value × zMem) := match (zcp c).lookup idx with
  | some (ci, _) => bif M.2.2.2.1 && Nat.blt M.1.length 999 then some (pc + 3, .ref M.1.length :: st, zpush (ci, 0, List.replicate (zN ci) 0) (zN ci) M) else none
  | none => none
noncomputable def znewa (t : ArrayType) (pc : Nat) (st : List Value) (M : zMem) : Option (Nat × List Value × zMem) := match st with
  | .int n :: r => bif M.2.2.2.1 && Nat.blt M.1.length 999 && decide (¬ n < 0) && Nat.ble n.toNatClampNeg 10000 then match t with
      | .int => some (pc + 2, .ref M.1.length :: r, zpush (10, n.toNatClampNeg, []) n.toNatClampNeg M)
      | .byte => some (pc + 2, .ref M.1.length :: r, zpush (11, n.toNatClampNeg, []) n.toNatClampNeg M)
      | .long => some (pc + 2, .ref M.1.length :: r, zpush (14, n.toNatClampNeg, []) n.toNatClampNeg M)
      | _ => none
    else none
  | _ => none
noncomputable def zanew (c idx pc : Nat) (st : List Value) (M : zMem) : Option (Nat × List Value × zMem) := match st with
  | .int n :: r => match (zcp c).lookup idx with
    | some (ci, _) => bif M.2.2.2.1 && Nat.blt M.1.length 999 && decide (¬ n < 0) && Nat.ble n.toNatClampNeg 10000 then match ci with
      | 1 => some (pc + 3, .ref M.1.length :: r, zpush (12, n.toNatClampNeg, List.replicate n.toNatClampNeg 0) n.toNatClampNeg M)
      | 6 => some (pc + 3, .ref M.1.length :: r, zpush (13, n.toNatClampNeg, List.replicate n.toNatClampNeg 0) n.toNatClampNeg M)
      | _ => none
      else none
    | none => none
  | _ => none
noncomputable def zgets (c idx pc : Nat) (st : List Value) (M : zMem) : Option (Nat × List Value × zMem) := match (zgp c).lookup idx with
  | some (sid, _, _) => some (pc + 3, .ref (1000 + sid) :: st, M)
  | none => none
noncomputable def zoin (c idx pc : Nat) (st : List Value) (M : zMem) : Option (Nat × List Value × zMem) := match (zmp c).lookup idx with
  | some (4, _, _) => match st with
    | .ref _ :: r => bif Nat.ble ((r.map fun v => v.category).sum) 8 then some (pc + 3, r, M) else none
    | _ => none
  | _ => none
noncomputable def zacp (c idx pc : Nat) (st : List Value) (M : zMem) : Option (Nat × List Value × zMem) := match (zmp c).lookup idx with
  | some (5, _, _) => match st with
    | .int n :: .int dp :: .ref a1 :: .int sp :: .ref a0 :: r => match M.1[a0]?, M.1[a1]? with
      | some (k0, n0, _), some (k1, n1, _) => bif k0 == 10 && k1 == 10 && decide (¬ sp < 0) && decide (¬ dp < 0) && decide (¬ n < 0) && Nat.ble (sp.toNatClampNeg + n.toNatClampNeg) n0 && Nat.ble (dp.toNatClampNeg + n.toNatClampNeg) n1 && Nat.ble ((r.map fun v => v.category).sum) 8 then
          some (pc + 3, r, (M.1, (fun i => if i = a1 then va_cpy (M.2.1 a0) (M.2.1 a1) sp.toNatClampNeg dp.toNatClampNeg n.toNatClampNeg else M.2.1 i), M.2.2))
        else none
      | _, _ => none
    | _ => none
  | _ => none
/-- a text's number -/
noncomputable def zldS (c idx n pc : Nat) (st : List Value) (M : zMem) : Option (Nat × List Value × zMem) := match (zlx c).lookup idx with
  | some k => some (pc + n, .ref (1100 + k) :: st, M)
  | none => none
noncomputable def zS (σ : Nat → Nat × (Nat → Int32)) (c : Nat) (ini : Bool) (i : Instr) (pc : Nat) (st : List Value) (M : zMem) : Option (Nat × List Value × zMem) := match i with
  | .getfield idx => zgetf c idx pc st M
  | .putfield idx => zputf c ini idx pc st M
  | .iaload => ziald σ pc st M
  | .baload => zbald pc st M
  | .laload => zlald pc st M
  | .aaload => zaald pc st M
  | .iastore => ziast pc st M
  | .bastore => zbast pc st M
  | .lastore => zlast pc st M
  | .aastore => zaast pc st M
  | .arraylength => zalen σ pc st M
  | .new idx => znew c idx pc st M
  | .newarray t => znewa t pc st M
  | .anewarray idx => zanew c idx pc st M
  | .getstatic idx => zgets c idx pc st M
  | .invokespecial idx => zoin c idx pc st M
  | .invokestatic idx => zacp c idx pc st M
  | .ldc idx => zldS c idx 2 pc st M
  | .ldc_w idx => zldS c idx 3 pc st M
  | _ => none
