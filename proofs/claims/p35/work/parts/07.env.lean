/-- words that stay, each by a law of its own -/
noncomputable def zNs : List Cond := [(Cond.methodLinkNest "ElidedLocks" (11 : Nat) ({ cls := "ElidedLocks$Machine", name := "<init>", desc := "()V" } : MethodName) "ElidedLocks"),
  (Cond.methodLinkNest "ElidedLocks$Machine" (32 : Nat) ({ cls := "ElidedLocks$Strand", name := "<init>", desc := "()V" } : MethodName) "ElidedLocks"),
  (Cond.methodLinkNest "ElidedLocks$Strand" (23 : Nat) ({ cls := "ElidedLocks$Guess", name := "<init>", desc := "()V" } : MethodName) "ElidedLocks"),
  (Cond.methodLinkNest "ElidedLocks$Machine" (52 : Nat) ({ cls := "ElidedLocks$Log", name := "<init>", desc := "()V" } : MethodName) "ElidedLocks"),
  (Cond.methodLinkNest "ElidedLocks" (41 : Nat) ({ cls := "ElidedLocks$Writer", name := "<init>", desc := "()V" } : MethodName) "ElidedLocks"),
  (Cond.fieldLinkNest "ElidedLocks$Reader" (77 : Nat) "ElidedLocks" "TERM_LEAST" "[I" "ElidedLocks"),
  (Cond.fieldLinkNest "ElidedLocks$Reader" (80 : Nat) "ElidedLocks" "TERM_MOST" "[I" "ElidedLocks"),
  (Cond.fieldLinkNest "ElidedLocks$Reader" (124 : Nat) "ElidedLocks" "DEED_LEAST" "[I" "ElidedLocks"),
  (Cond.fieldLinkNest "ElidedLocks$Reader" (127 : Nat) "ElidedLocks" "DEED_MOST" "[I" "ElidedLocks"),
  (Cond.castable "java/lang/IllegalArgumentException" "java/lang/IllegalArgumentException"),
  (Cond.castable "java/lang/UnsupportedOperationException" "java/lang/UnsupportedOperationException"),
  (Cond.castable "java/lang/IndexOutOfBoundsException" "java/lang/IndexOutOfBoundsException"),
  (Cond.castable "java/util/NoSuchElementException" "java/util/NoSuchElementException"),
  (Cond.castable "java/lang/IllegalStateException" "java/lang/IllegalStateException"),
  (Cond.castable "ElidedLocks" "java/lang/Object"),
  (Cond.castable "ElidedLocks$Machine" "java/lang/Object"),
  (Cond.castable "ElidedLocks$Lock" "java/lang/Object"),
  (Cond.castable "ElidedLocks$Strand" "java/lang/Object"),
  (Cond.castable "ElidedLocks$Guess" "java/lang/Object"),
  (Cond.castable "ElidedLocks$Log" "java/lang/Object"),
  (Cond.castable "ElidedLocks$Reader" "java/lang/Object"),
  (Cond.castable "ElidedLocks$Writer" "java/lang/Object"),
  (Cond.castable "ElidedLocks$Orders" "java/lang/Object"),
  (Cond.castable "ElidedLocksModel" "java/lang/Object"),
  (Cond.castable "java/lang/IllegalArgumentException" "java/lang/Object"),
  (Cond.castable "java/lang/UnsupportedOperationException" "java/lang/Object"),
  (Cond.castable "java/lang/IndexOutOfBoundsException" "java/lang/Object"),
  (Cond.castable "java/util/NoSuchElementException" "java/lang/Object"),
  (Cond.castable "java/lang/IllegalStateException" "java/lang/Object"),
  (Cond.castable "java/lang/Throwable" "java/lang/Object"),
  (Cond.castable "java/lang/String" "java/lang/Object")]
noncomputable def zNp : List Nat := [142, 181, 187, 287, 391, 868, 870, 887, 889, 901, 970, 999, 1021, 1121, 1822, 1823, 1824, 1825, 1826, 1827, 1828, 1829, 1830, 1831, 1832, 1833, 1834, 1835, 1836, 1837, 1838]
theorem zNs_ok : zNs = zNp.filterMap (fun i => lw_tbl[i]?) := by decide +kernel
theorem zNs_in : ∀ w ∈ zNs, w ∈ lw_tbl := fun w h => by
  rw [zNs_ok] at h
  obtain ⟨i, -, hi⟩ := List.mem_filterMap.mp h
  exact List.mem_of_getElem? hi
noncomputable def zsn : Nat → String := fun k => match k with
  | 0 => "TERM_LEAST"
  | 1 => "TERM_MOST"
  | 2 => "DEED_LEAST"
  | _ => "DEED_MOST"
theorem zNs_tab : ∀ w ∈ zNs, w.onTables = true := by decide +kernel
noncomputable def zNk (w : Cond) : Bool := match w with
  | .methodLinkNest .. => true
  | .fieldLinkNest .. => true
  | .castable .. => true
  | _ => false
theorem zNs_warm {s U : State} (hW : s.WarmedH U.vm) (h : ∀ w ∈ zNs, va_Nw w s) : ∀ w ∈ zNs, va_Nw w U := by
  intro w hw
  have h1 := h w hw
  have h2 : zNk w = true := List.all_eq_true.mp (show zNs.all zNk = true by decide +kernel) w hw
  cases w
  case methodLinkNest a b c d => exact va_Nw.warmM hW h1
  case fieldLinkNest a b c d e f => exact va_Nw.warmF hW h1
  case castable a b => exact va_Nw.warmC hW h1
  all_goals cases h2
/-- a text of the tables, as it stands from the start -/
noncomputable def zSt (a : Nat) (bs : List Int32) (A : Nat → Prop) (U : State) (H : Heap) : Prop := va_O "java/lang/String" a A U H ∧ va_OF "java/lang/String" "coder" "B" (.int 0) a A U H ∧ ∃ v : Nat, va_OF "java/lang/String" "value" "[B" (.ref v) a A U H ∧ va_T .byte v bs.length (fun j => .int (bs.getD j 0)) A U H
theorem zSt.moved {a : Nat} {bs : List Int32} {A : Nat → Prop} {u U : State} {H : Heap} (hvm : u.vm.Alike U.vm) (h : zSt a bs A u H) : zSt a bs A U H := by
  obtain ⟨h1, h2, v, h3, h4⟩ := h
  exact ⟨va_O.moved hvm h1, va_OF.moved hvm h2, v, va_OF.moved hvm h3, va_T.moved hvm h4⟩
theorem zSt.kept {a : Nat} {bs : List Int32} {A : Nat → Prop} {U : State} {H H1 : Heap} (h : zSt a bs A U H) (hq : ∀ a : Nat, a < H.size → ¬ A a → H1[a]? = H[a]?) : zSt a bs A U H1 := by
  obtain ⟨h1, h2, v, h3, h4⟩ := h
  exact ⟨h1.kept hq, h2.kept hq, v, h3.kept hq, h4.kept hq⟩
noncomputable def zEnv (G : zG) (σ : Nat → Nat × (Nat → Int32)) (U : State) : Prop :=
  vx_Zq Bundle.tN "UNASSIGNED_STACK" Bundle.steD (zA G) U U.heap ∧ vx_Zq Bundle.tN "SUPPRESSED_SENTINEL" Bundle.listD (zA G) U U.heap ∧
  (∀ (n : Nat) (q : Nat × Nat × String × Nat), zstr[n]? = some q → vk_R (zcn q.1) q.2.1 q.2.2.1 (G.2.2.2 (10 + n)) U) ∧
  (∀ w ∈ zNs, va_Nw w U) ∧
  (∀ k, k < 4 → va_Z "ElidedLocks" (zsn k) "[I" (.ref (G.2.2.2 (1 + k))) (zA G) U U.heap) ∧
  (∀ j, j < 5 → G.2.2.2 j < G.2.2.1 ∧ va_X (G.2.2.2 j) (σ j).1 (σ j).2 U U.heap) ∧
  (va_AO "ElidedLocks$Lock" U ∧ va_AO "ElidedLocks$Strand" U ∧ va_Z "java/lang/String" "COMPACT_STRINGS" "Z" (.int 1) (zA G) U U.heap ∧ va_Zq "jdk/internal/util/Preconditions" "SIOOBE_FORMATTER" "Ljava/util/function/BiFunction;" (zA G) U U.heap ∧
  ∀ (n : Nat) (q : Nat × Nat × String × Nat × List Int32), zlit[n]? = some q → vk_R (zcn q.1) q.2.1 q.2.2.1 (G.2.2.2 (100 + n)) U ∧ zSt (G.2.2.2 (100 + n)) q.2.2.2.2 (zA G) U U.heap)
/-- the surroundings, later in the same method or at a callee's entry -/
theorem zEnv.go {G : zG} {σ : Nat → Nat × (Nat → Int32)} {s U : State} (h : zEnv G σ s) (hW : s.WarmedH U.vm) (hb : G.2.2.1 ≤ s.heap.size) (hk : ∀ q : Nat, q < s.heap.size → ¬ zA G q → U.heap[q]? = s.heap[q]?) : zEnv G σ U := by
  obtain ⟨h1, h2, h3, h4, h5, h6, h7, h8, h9, h10, h11⟩ := h
  refine ⟨vx_Zq.moved hW.alike (h1.kept hk), vx_Zq.moved hW.alike (h2.kept hk), fun n q hq => vk_R.warm hW (h3 n q hq), zNs_warm hW h4, fun k hk2 => va_Z.moved hW.alike ((h5 k hk2).kept hk), fun j hj => ⟨(h6 j hj).1, va_X.moved hW.alike ((h6 j hj).2.kept ?_)⟩, va_AO.moved hW.alike h7, va_AO.moved hW.alike h8, va_Z.moved hW.alike (h9.kept hk), va_Zq.moved hW.alike (h10.kept hk), fun n q hq => ⟨vk_R.warm hW (h11 n q hq).1, zSt.moved hW.alike ((h11 n q hq).2.kept hk)⟩⟩
  have hlt := (h6 j hj).1
  exact hk _ (Nat.lt_of_lt_of_le hlt hb) (Nat.not_le.mpr hlt)
theorem zfp_ok {c idx ci k pl : Nat} (h : (zfp c).lookup idx = some (ci, k, pl)) : ∃ q, vwCl[ci]? = some q ∧ k < q.2.2 ∧ Cond.fieldLink (zcn c) idx (q.2.1 k).1 (q.2.1 k).2.1 (q.2.1 k).2.2.1 ∈ zWs := by
  have hm := zlk_of (β := Unit) h
  have hc : c < 13 := by
    apply Nat.lt_of_not_le
    intro hc
    rw [zfp_ge hc] at hm
    cases hm
  have h2 := List.all_eq_true.mp zpck_ok c (List.mem_range.mpr hc)
  unfold zpck at h2
  simp only [Bool.and_eq_true] at h2
  have h3 := List.all_eq_true.mp h2.1.1 _ hm
  cases hq : vwCl[ci]? with
  | none => simp [hq] at h3
  | some q =>
    simp only [hq, Bool.and_eq_true, decide_eq_true_eq] at h3
    exact ⟨q, rfl, h3.1, List.mem_filter.mpr ⟨List.mem_of_getElem? h3.2, rfl⟩⟩
theorem zcp_ok {c idx ci pl : Nat} (h : (zcp c).lookup idx = some (ci, pl)) : ∃ q, vwCl[ci]? = some q ∧ Cond.classLink (zcn c) idx q.1 ∈ zWs := by
  have hm := zlk_of (β := Unit) h
  have hc : c < 13 := by
    apply Nat.lt_of_not_le
    intro hc
    rw [zcp_ge hc] at hm
    cases hm
  have h2 := List.all_eq_true.mp zpck_ok c (List.mem_range.mpr hc)
  unfold zpck at h2
  simp only [Bool.and_eq_true] at h2
  have h3 := List.all_eq_true.mp h2.1.2 _ hm
  cases hq : vwCl[ci]? with
  | none => simp [hq] at h3
  | some q =>
    simp only [hq, decide_eq_true_eq] at h3
    exact ⟨q, rfl, List.mem_filter.mpr ⟨List.mem_of_getElem? h3, rfl⟩⟩
theorem zmp_4 {c idx j pl : Nat} (h : (zmp c).lookup idx = some (4, j, pl)) : Cond.methodLink (zcn c) idx Lib.objectInit ∈ zWs := by
  have hm := zlk_of (β := Unit) h
  have hc : c < 13 := by
    apply Nat.lt_of_not_le
    intro hc
    rw [zmp_ge hc] at hm
    cases hm
  have h2 := List.all_eq_true.mp zpck_ok c (List.mem_range.mpr hc)
  unfold zpck at h2
  simp only [Bool.and_eq_true] at h2
  have h3 := List.all_eq_true.mp h2.2 _ hm
  exact List.mem_filter.mpr ⟨List.mem_of_getElem? (of_decide_eq_true h3), rfl⟩
theorem zmp_5 {c idx j pl : Nat} (h : (zmp c).lookup idx = some (5, j, pl)) : Cond.methodLink (zcn c) idx arraycopyName ∈ zWs := by
  have hm := zlk_of (β := Unit) h
  have hc : c < 13 := by
    apply Nat.lt_of_not_le
    intro hc
    rw [zmp_ge hc] at hm
    cases hm
  have h2 := List.all_eq_true.mp zpck_ok c (List.mem_range.mpr hc)
  unfold zpck at h2
  simp only [Bool.and_eq_true] at h2
  have h3 := List.all_eq_true.mp h2.2 _ hm
  exact List.mem_filter.mpr ⟨List.mem_of_getElem? (of_decide_eq_true h3), rfl⟩
noncomputable def ztyk (t : Nat) (ty : FieldType) : Bool := match t, ty with | 0, .int => true | 1, .boolean => true | 2, .array _ => true | 2, .object _ => true | _, _ => false
theorem zcl_all {ci : Nat} {q : vw_C} (h : vwCl[ci]? = some q) : q.1 = zcn ci ∧ Cond.instantiable q.1 q.2.2 ∈ zWs ∧ Cond.initialized q.1 ∈ zWs ∧ (zft ci).length = q.2.2 ∧ zN ci = q.2.2 ∧ ∀ k, k < q.2.2 → (q.2.1 k).1 = q.1 ∧ ∃ t f, (zft ci)[k]? = some (t, f) ∧ (q.2.1 k).2.2.2 = f ∧ ztyk t (zty ci k) = true := by
  have h2 := List.all_eq_true.mp zcck_ok ci (List.mem_range.mpr (zcl_lt h))
  rw [h] at h2
  cases hr : zcpl[ci]? with
  | none => rw [hr] at h2; simp at h2
  | some r =>
    rw [hr] at h2
    simp only [Bool.and_eq_true, decide_eq_true_eq] at h2
    obtain ⟨⟨⟨⟨a1, a2⟩, a3⟩, a4⟩, a5⟩ := h2
    refine ⟨a1, List.mem_filter.mpr ⟨List.mem_of_getElem? a2, rfl⟩, List.mem_filter.mpr ⟨List.mem_of_getElem? a3, rfl⟩, a4, by unfold zN; rw [h], fun k hk => ?_⟩
    have h3 := List.all_eq_true.mp a5 k (List.mem_range.mpr hk)
    simp only [Bool.and_eq_true, decide_eq_true_eq] at h3
    refine ⟨h3.1, ?_⟩
    have h4 := h3.2
    cases hf : (zft ci)[k]? with
    | none => rw [hf] at h4; simp at h4
    | some x =>
      obtain ⟨t, f⟩ := x
      rw [hf] at h4
      simp only [Bool.and_eq_true, decide_eq_true_eq] at h4
      exact ⟨t, f, rfl, h4.1, h4.2⟩
theorem zcel_obj {G : zG} {m : Nat → Nat → Int32} {lf : Nat → Nat → Int64} {i ci n : Nat} {rs : List Nat} (h : ci < 10) : zcell G m lf i (ci, n, rs) = .inr (ci, (List.range (zN ci)).map (zfv G m i ci rs)) := by
  unfold zcell
  rw [if_pos h]
theorem zcell_m {G : zG} {m m' : Nat → Nat → Int32} {lf lf' : Nat → Nat → Int64} {i : Nat} {q : Nat × Nat × List Nat} (h : m' i = m i) (h2 : lf' i = lf i) : zcell G m' lf' i q = zcell G m lf i q := by
  have hf : zfv G m' i q.1 q.2.2 = zfv G m i q.1 q.2.2 := by
    funext k
    unfold zfv
    rw [h]
  unfold zcell
  rw [hf, h, h2]
theorem zcel_m {G : zG} {M M' : zMem} {i : Nat} (h0 : M'.1[i]? = M.1[i]?) (h : M'.2.1 i = M.2.1 i) (h2 : M'.2.2.1 i = M.2.2.1 i) : zcel G M' i = zcel G M i := by
  unfold zcel
  rw [List.getD_eq_getElem?_getD, List.getD_eq_getElem?_getD, h0]
  exact zcell_m h h2
