/-! THE CLAIM OUT OF ONE WALK OF THE LAW'S BODY. Your part is whole_start (and what it stands on); all else here is the same for every law, but numbers. -/
noncomputable def R_law : String := "ElidedLocksLaw"
noncomputable def lw_P (b : Addr) (xs : List Int32) (args : Array Value) (s : State) : Prop := args = #[.ref b] ∧ s.IntsAt b xs ∧ xs.length ≤ 3072 ∧ (Jvm.Cond.and given_1 narrow_1).before args s = true
noncomputable def lw_Q (_ : Array Value) (s : State) (o : Outcome) (t : State) : Prop := o = .returned (some (.int 1)) ∧ Framed s o t [] 601024 7293034
noncomputable def lw_Z (below : List Frame) (a : Array Value) (s : State) : State → Prop := fun t => ∃ o, t.status = .running ∧ Ended t below o ∧ lw_Q a s o t
/-- the law's own end, with 1 on the stack, nothing written that was there before, its room as the claim has it -/
theorem lw_ret {p : Program} {l : Launch} {e : Env} {s : State} {m : MethodId} {below : List Frame} {meth : Method} {c : Code} {b : Nat} (hx : p.tables.exec = Jvm.exec) (hb : c.code = code) (hr : meth.sig.returnType = ret) (hlocks : meth.locks = false) {pc : Nat} {H : Heap} {ls : Array Slot} (hdg : decode code pc = .ok (.ireturn, 1)) : W p l e room_1 s m #[Value.ref b] below meth c H [] 601024 7293034 (lw_Z below #[Value.ref b] s) (F0 m pc ls [.int 1]) := by
  intro T hT X
  obtain ⟨fs, hret, hrun, hended, hW, hframe⟩ := X.leave (v := some (.int 1)) (hlocks := hlocks) (fun h => by rw [hr] at h; cases h)
  have hmeth' : T.vm.method? m = some meth := X.method'
  refine ⟨T.setFrames fs, ?_, .returned (some (.int 1)), hrun, hended, rfl, ⟨_, rfl⟩, hW, hframe⟩
  jvm_step X.here [X.here.top, hx, hb, hdg, hmeth', hr, ret, narrow_b1]
  (try refine ⟨rfl, ?_⟩); (try refine ⟨rfl, ?_⟩)
  first | (intro acts; rw [hret _ acts rfl rfl rfl]) | rw [hret _ _ rfl rfl rfl]
  exact Steps.refl _
/-- what holds at the law's entry: the machine, the code, the tables' words (any of lw_tbl by 'hts w (by decide +kernel)'), the script of L ints xs at the cell b, what the Statement gives of the start (any of its parts by flat_of_before) -/
noncomputable def lw_At (p : Program) (s : State) (m : MethodId) (meth : Method) (c : Code) (b L : Nat) (xs : Nat → Int32) : Prop :=
  p.tables.exec = Jvm.exec ∧ c.code = code ∧ meth.sig.returnType = ret ∧ c.maxLocals = 7 ∧ s.vm.findClass R_law = some m.cls ∧ (∀ w ∈ lw_tbl, w.before #[Value.ref b] s = true) ∧ va_X b L xs s s.heap ∧ b < s.heap.size ∧ meth.locks = false ∧ (Jvm.Cond.and given_1 narrow_1).before #[Value.ref b] s = true
/-! the law's entry: the surroundings stand -/
noncomputable def zla : Nat → List Int32 := fun n => match n with
  | 0 => [1, 1, 1, 1, 0, 0, 0, 1, 0]
  | 1 => [8, 9, 4, 8, 16, 9, 15, 9, 1]
  | 2 => [0, 0, 0, 0, 0, 0, 1, 0]
  | _ => [3, 3, 31, 31, 999, 999, 9, 0]
noncomputable abbrev zFl : List Cond := flatC (Cond.and given_1 narrow_1)
noncomputable def zflc (n : Nat) : Prop := Cond.arrayOf (.static "ElidedLocks" (zsn n) "[I") .int ∈ zFl ∧ Cond.eq (.length (.static "ElidedLocks" (zsn n) "[I")) (.int (Int32.ofNat (zla n).length)) ∈ zFl ∧ ∀ k, k < (zla n).length → Cond.eq (.elem (.static "ElidedLocks" (zsn n) "[I") (.int (Int32.ofNat k))) (.int ((zla n).getD k 0)) ∈ zFl
theorem zfl_0 : zflc 0 := by unfold zflc; decide +kernel
theorem zfl_1 : zflc 1 := by unfold zflc; decide +kernel
theorem zfl_2 : zflc 2 := by unfold zflc; decide +kernel
theorem zfl_3 : zflc 3 := by unfold zflc; decide +kernel
theorem zfl_ls : ∀ n, n < 4 → Cond.laysStatic "ElidedLocks" (zsn n) "[I" ∈ lw_tbl := by decide +kernel
theorem zfl_in : Cond.initialized "ElidedLocks" ∈ lw_tbl := by decide +kernel
theorem zfl_nc : ∀ a, a < 5 → ∀ b, b < 5 → a ≠ b → Cond.not (.castable (zex a) (zex b)) ∈ zFl := by decide +kernel
theorem zfl_un : Cond.isRef (.static Bundle.tN "UNASSIGNED_STACK" Bundle.steD) ∈ zFl ∧ Cond.isRef (.static Bundle.tN "SUPPRESSED_SENTINEL" Bundle.listD) ∈ zFl := by decide +kernel
theorem zfl_ul : Cond.laysStatic Bundle.tN "UNASSIGNED_STACK" Bundle.steD ∈ lw_tbl ∧ Cond.laysStatic Bundle.tN "SUPPRESSED_SENTINEL" Bundle.listD ∈ lw_tbl ∧ Cond.initialized Bundle.tN ∈ lw_tbl := by decide +kernel
theorem zfl_ao : Cond.arrayOver (.object "ElidedLocks$Lock") ∈ lw_tbl ∧ Cond.arrayOver (.object "ElidedLocks$Strand") ∈ lw_tbl := by decide +kernel
theorem zfl_ds : ∀ w ∈ zDs, w ∈ lw_tbl := by decide +kernel
theorem zfl_st : zstr.all (fun q => q.1 == 8 && decide (lw_tbl[q.2.2.2]? = some (.stringRef (zcn q.1) q.2.1 q.2.2.1))) = true := by decide +kernel
/-- where a text's words stand -/
noncomputable def zlp : List Nat := [159, 239, 245, 681, 691, 742, 750, 758, 765, 772, 779, 787, 795, 818, 860, 869, 878, 888, 896, 902, 910, 731, 802, 810, 825, 834, 842, 851, 935, 944, 953, 961, 969, 977, 986, 918, 929]
noncomputable def ztm (q : Nat × Nat × String × Nat × List Int32) : Term := .string (zcn q.1) q.2.1
noncomputable def ztv (q : Nat × Nat × String × Nat × List Int32) : Term := .field (ztm q) "java/lang/String" "value" "[B"
noncomputable def zlitC (q : Nat × Nat × String × Nat × List Int32) : List Cond := [.exactly (ztm q) "java/lang/String", .eq (.field (ztm q) "java/lang/String" "coder" "B") (.int 0), .arrayOf (ztv q) .byte, .eq (.length (ztv q)) (.int (Int32.ofNat q.2.2.2.2.length))] ++ (List.range q.2.2.2.2.length).map (fun j => .eq (.elem (ztv q) (.int (Int32.ofNat j))) (.int (q.2.2.2.2.getD j 0)))
noncomputable def zlitb (L : List Cond) : Bool := (List.range zlit.length).all (fun n => match zlit[n]?, zlp[n]? with
  | some q, some p => decide ((L.drop p).take (zlitC q).length = zlitC q) && Nat.blt q.1 10 && decide (lw_tbl[q.2.2.2.1]? = some (.stringRef (zcn q.1) q.2.1 q.2.2.1)) && Nat.blt q.2.2.2.2.length 1000
  | _, _ => false)
theorem zlitb_ok : zlitb zFl = true := by decide +kernel
theorem zlit_in {n : Nat} {q : Nat × Nat × String × Nat × List Int32} (h : zlit[n]? = some q) : (∀ w ∈ zlitC q, w ∈ zFl) ∧ q.1 < 10 ∧ Cond.stringRef (zcn q.1) q.2.1 q.2.2.1 ∈ lw_tbl ∧ q.2.2.2.2.length < 2 ^ 31 := by
  have h1 := List.all_eq_true.mp zlitb_ok n (List.mem_range.mpr (List.getElem?_eq_some_iff.mp h).1)
  rw [h] at h1
  cases hp : zlp[n]? with
  | none => rw [hp] at h1; cases h1
  | some p =>
    rw [hp] at h1
    simp only [Bool.and_eq_true, decide_eq_true_eq] at h1
    obtain ⟨⟨⟨a1, a2⟩, a3⟩, a4⟩ := h1
    refine ⟨fun w hw => ?_, zblt a2, List.mem_of_getElem? a3, ?_⟩
    · rw [← a1] at hw
      exact List.mem_of_mem_drop (List.mem_of_mem_take hw)
    · have := zblt a4
      omega
theorem zfl_js : Cond.laysStatic "java/lang/String" "COMPACT_STRINGS" "Z" ∈ lw_tbl ∧ Cond.initialized "java/lang/String" ∈ lw_tbl ∧ Cond.laysStatic "jdk/internal/util/Preconditions" "SIOOBE_FORMATTER" "Ljava/util/function/BiFunction;" ∈ lw_tbl ∧ Cond.initialized "jdk/internal/util/Preconditions" ∈ lw_tbl := by decide +kernel
theorem zfl_jf : Cond.eq (.static "java/lang/String" "COMPACT_STRINGS" "Z") (.int 1) ∈ zFl ∧ Cond.isRef (.static "jdk/internal/util/Preconditions" "SIOOBE_FORMATTER" "Ljava/util/function/BiFunction;") ∈ zFl := by decide +kernel
theorem zXof {args : Array Value} {s : State} {tm : Term} {N : Nat} {f : Nat → Int32} (hN : N < 2 ^ 31) (harr : (Cond.arrayOf tm .int).before args s = true) (hlen : (Term.length tm).eval args s none [] s = some (.int (Int32.ofNat N))) (hel : ∀ j : Nat, j < N → (Term.elem tm (.int (Int32.ofNat j))).eval args s none [] s = some (.int (f j))) : ∃ t : Nat, tm.eval args s none [] s = some (.ref t) ∧ t < s.heap.size ∧ va_X t N f s s.heap := by
  obtain ⟨t, ht, cell, hcell, hof, hkn, hle, hsz, hj, -⟩ := va_Tof (f := fun j => .int (f j)) (A := fun _ => False) hN harr hlen hel (fun _ _ h => h)
  obtain ⟨t2, cell2, ht2, hat, -⟩ := Term.length_spec hlen
  cases ht.symm.trans ht2
  obtain ⟨hcell2, -, -, -⟩ := State.arrayAt?_spec hat
  cases Option.some.inj (hcell.symm.trans hcell2)
  have hs31 : cell.slots.size < 2 ^ 31 := by
    simp only [Term.eval, ht, hat, Option.bind_eq_bind, Option.bind_some] at hlen
    by_cases hlt : cell.slots.size < 2147483648
    · exact hlt
    · simp [hlt] at hlen
  have hse : cell.slots.size = N := by
    have h1 : nI cell.slots.size = nI N := hsz
    have h2 := congrArg Int32.toNatClampNeg h1
    rw [nI_clamp hs31, nI_clamp hN] at h2
    exact h2
  exact ⟨t, ht, (Array.getElem?_eq_some_iff.mp hcell).1, cell, hcell, hof, hkn, hse, hj⟩
noncomputable def zsig (L : Nat) (xs : Nat → Int32) : Nat → Nat × (Nat → Int32) := fun j => match j with
  | 0 => (L, xs)
  | n + 1 => ((zla n).length, fun k => (zla n).getD k 0)
theorem zstart {p : Program} {s : State} {m : MethodId} {meth : Method} {c : Code} {b L : Nat} {xs : Nat → Int32} (C0 : lw_At p s m meth c b L xs) : ∃ G : zG, zBd p s m #[Value.ref b] c code 10 G (zsig L xs) ∧ zNC s ∧ G.2.2.1 = s.heap.size ∧ zad G 1000 = b := by
  obtain ⟨hx, hb, hr, hml, hown, hts, hX, hbl, hlocks, hgv⟩ := C0
  have hF := flat_of_before _ hgv
  have hzw : ∀ w ∈ zWs, w.before #[Value.ref b] s = true := fun w hw => hts w (List.mem_filter.mp hw).1
  -- the classes
  have hK0 : ∀ k : Nat, ∃ ci : ClassId × (Nat → Nat), ∀ q : vw_C, vwCl[k]? = some q → u_Kn s q.1 q.2.1 q.2.2 ci.1 ci.2 := by
    intro k
    cases hq : vwCl[k]? with
    | none => exact ⟨(0, fun _ => 0), fun q h => nomatch h⟩
    | some q =>
      obtain ⟨cC, iS, h⟩ := u_known (C := q.1) (T := q.2.1) (N := q.2.2) (n := q.2.2) hzw (zcl_in hq) (hzw _ (zcl_all hq).2.1)
      exact ⟨(cC, iS), fun q2 h2 => by cases h2; exact h⟩
  obtain ⟨D, hD⟩ := Classical.axiomOfChoice hK0
  -- the arrays
  obtain ⟨cI, kI, oI, i1, i2, i3⟩ := Cond.arrayClass_spec (hzw _ zarr_i)
  obtain ⟨cB, kB, oB, b1, b2, b3⟩ := Cond.arrayClass_spec (hzw _ zarr_b)
  obtain ⟨cJ, kJ, oJ, j1, j2, j3⟩ := Cond.arrayClass_spec (hzw _ zarr_l)
  obtain ⟨oK, cK, kK, k1, -, k2, k3, k4⟩ := Cond.arrayOver_spec (hts _ zfl_ao.1)
  obtain ⟨oT, cT, kT, t1, -, t2, t3, t4⟩ := Cond.arrayOver_spec (hts _ zfl_ao.2)
  -- the rows that stand from the start
  have hrow : ∀ n, n < 4 → ∃ t : Nat, (Term.static "ElidedLocks" (zsn n) "[I").eval #[Value.ref b] s none [] s = some (.ref t) ∧ t < s.heap.size ∧ va_X t (zla n).length (fun k => (zla n).getD k 0) s s.heap := by
    intro n hn
    have hc : zflc n := by
      match n, hn with
      | 0, _ => exact zfl_0
      | 1, _ => exact zfl_1
      | 2, _ => exact zfl_2
      | 3, _ => exact zfl_3
      | k + 4, h => exact absurd h (by omega)
    have hl : (zla n).length < 2 ^ 31 := by
      match n, hn with
      | 0, _ => decide
      | 1, _ => decide
      | 2, _ => decide
      | 3, _ => decide
      | k + 4, h => exact absurd h (by omega)
    exact zXof hl (hF _ hc.1) (va_eqv (hF _ hc.2.1) rfl) (fun j hj => va_eqv (hF _ (hc.2.2 j hj)) rfl)
  have hrow' : ∀ n : Nat, ∃ t : Nat, n < 4 → (Term.static "ElidedLocks" (zsn n) "[I").eval #[Value.ref b] s none [] s = some (.ref t) ∧ t < s.heap.size ∧ va_X t (zla n).length (fun k => (zla n).getD k 0) s s.heap := by
    intro n
    by_cases hn : n < 4
    · obtain ⟨t, ht⟩ := hrow n hn
      exact ⟨t, fun _ => ht⟩
    · exact ⟨0, fun h => absurd h hn⟩
  obtain ⟨ra, hra⟩ := Classical.axiomOfChoice hrow'
  -- the texts
  have h8 : s.vm.findClass "ElidedLocks" = some (D 8).1 := (hD 8 _ rfl).2.1
  have hstr : ∀ n : Nat, ∃ a : Nat, ∀ q : Nat × Nat × String × Nat, zstr[n]? = some q → vk_R (zcn q.1) q.2.1 q.2.2.1 a s := by
    intro n
    cases hq : zstr[n]? with
    | none => exact ⟨0, fun q h => nomatch h⟩
    | some q =>
      have h1 := List.all_eq_true.mp zfl_st q (List.mem_of_getElem? hq)
      simp only [Bool.and_eq_true, beq_iff_eq, decide_eq_true_eq] at h1
      have hw := hts _ (List.mem_of_getElem? h1.2)
      have hw' : (Cond.stringRef (zcn q.1) q.2.1 q.2.2.1).before #[] s = true := hw
      obtain ⟨k, cf, i, a, -, -, -, -, -, hev⟩ := Cond.stringRef_spec (cls := zcn q.1) (by rw [h1.1]; exact h8) hw'
      exact ⟨a, fun q2 h2 => by cases h2; exact ⟨hw', hev⟩⟩
  obtain ⟨sa, hsa⟩ := Classical.axiomOfChoice hstr
  have hA : ∀ a : Nat, a < s.heap.size → ¬ (fun q => s.heap.size ≤ q) a := fun a h => Nat.not_le.mpr h
  have hcl : ∀ k, k < 10 → s.vm.findClass (zcn k) = some (D k).1 := by
    intro k hk
    have hk2 : k < vwCl.length := hk
    have hq : vwCl[k]? = some vwCl[k] := List.getElem?_eq_getElem hk2
    rw [← (zcl_all hq).1]
    exact (hD k _ hq).2.1
  have hlit : ∀ n : Nat, ∃ a : Nat, ∀ q : Nat × Nat × String × Nat × List Int32, zlit[n]? = some q → vk_R (zcn q.1) q.2.1 q.2.2.1 a s ∧ zSt a q.2.2.2.2 (fun q => s.heap.size ≤ q) s s.heap := by
    intro n
    cases hq : zlit[n]? with
    | none => exact ⟨0, fun q h => nomatch h⟩
    | some q =>
      obtain ⟨g1, g2, g3, g4⟩ := zlit_in hq
      have hw := hts _ g3
      have hw' : (Cond.stringRef (zcn q.1) q.2.1 q.2.2.1).before #[] s = true := hw
      obtain ⟨k, cf, i, a, -, -, -, -, -, hev⟩ := Cond.stringRef_spec (cls := zcn q.1) (hcl _ g2) hw'
      have hev2 : (ztm q).eval #[Value.ref b] s none [] s = some (.ref a) := hev
      have c1 := hF _ (g1 (.exactly (ztm q) "java/lang/String") (List.mem_append_left _ List.mem_cons_self))
      have c2 := hF _ (g1 (.eq (.field (ztm q) "java/lang/String" "coder" "B") (.int 0)) (List.mem_append_left _ (List.mem_cons_of_mem _ List.mem_cons_self)))
      have c3 := hF _ (g1 (.arrayOf (ztv q) .byte) (List.mem_append_left _ (List.mem_cons_of_mem _ (List.mem_cons_of_mem _ List.mem_cons_self))))
      have c4 := hF _ (g1 (.eq (.length (ztv q)) (.int (Int32.ofNat q.2.2.2.2.length))) (List.mem_append_left _ (List.mem_cons_of_mem _ (List.mem_cons_of_mem _ (List.mem_cons_of_mem _ List.mem_cons_self)))))
      have c5 : ∀ j, j < q.2.2.2.2.length → (Cond.eq (.elem (ztv q) (.int (Int32.ofNat j))) (.int (q.2.2.2.2.getD j 0))).before #[Value.ref b] s = true := fun j hj => hF _ (g1 _ (List.mem_append_right _ (List.mem_map.mpr ⟨j, List.mem_range.mpr hj, rfl⟩)))
      obtain ⟨v, hv, hT⟩ := va_Tof (ty := .byte) (f := fun j => .int (q.2.2.2.2.getD j 0)) (A := fun q => s.heap.size ≤ q) g4 c3 (va_eqv c4 rfl) (fun j hj => va_eqv (c5 j hj) rfl) hA
      exact ⟨a, fun q2 h2 => by cases h2; exact ⟨⟨hw', hev⟩, va_Oof c1 hev2 hA, vk_OFof hev2 (va_eqv c2 rfl) hA, v, vk_OFof hev2 hv hA, hT⟩⟩
  obtain ⟨la, hla⟩ := Classical.axiomOfChoice hlit
  refine ⟨(((fun k => (D k).1), (fun k => (D k).2)), (fun t => match t with | 0 => cI | 1 => cB | 2 => cK | 3 => cT | _ => cJ), s.heap.size, (fun j => match j with | 0 => b | n + 1 => if n < 4 then ra n else if n < 99 then sa (n - 9) else la (n - 99))), ⟨hx, hb, hown, hzw, ⟨fun k q hq => hD k q hq, ?_⟩, Nat.le_refl _, ?_⟩, ⟨fun x y hx hy hxy => va_Nc.of (hF _ (zfl_nc x hx y hy hxy)), fun w hw => va_Nw.of (List.all_eq_true.mp (show zDs.all Cond.onTables = true by decide +kernel) w hw) (hts _ (zfl_ds w hw))⟩, rfl, rfl⟩
  · intro k q hq
    match k, hq with
    | 0, hq => cases hq; exact ⟨fun n z => ⟨fun k h => (by cases h), kI, i2, oI, i3⟩, i1⟩
    | 1, hq => cases hq; exact ⟨fun n z => ⟨fun k h => (by cases h), kB, b2, oB, b3⟩, b1⟩
    | 2, hq => cases hq; exact ⟨fun n z => ⟨fun k h => (by cases h), kK, k2, oK, k3⟩, kK, oK, k2, k3, k1, k4⟩
    | 3, hq => cases hq; exact ⟨fun n z => ⟨fun k h => (by cases h), kT, t2, oT, t3⟩, kT, oT, t2, t3, t1, t4⟩
    | 4, hq => cases hq; exact ⟨fun n z => ⟨fun k h => (by cases h), kJ, j2, oJ, j3⟩, j1⟩
    | k + 5, hq => cases hq
  · refine ⟨vx_Zqof (hts _ zfl_ul.1) (hts _ zfl_ul.2.2) (hF _ zfl_un.1) hA, vx_Zqof (hts _ zfl_ul.2.1) (hts _ zfl_ul.2.2) (hF _ zfl_un.2) hA, fun n q hq => ?_, fun w hw => va_Nw.of (zNs_tab w hw) (hts _ (zNs_in w hw)), fun k hk => ?_, fun j hj => ?_, va_AO.of (hts _ zfl_ao.1), va_AO.of (hts _ zfl_ao.2), va_Zof (hts _ zfl_js.1) (hts _ zfl_js.2.1) (va_eqv (hF _ zfl_jf.1) rfl) hA, va_Zqof (hts _ zfl_js.2.2.1) (hts _ zfl_js.2.2.2) (hF _ zfl_jf.2) hA, fun n q hq => ?_⟩
    · have h1 := hsa n q hq
      show vk_R (zcn q.1) q.2.1 q.2.2.1 (match 10 + n with | 0 => b | n + 1 => if n < 4 then ra n else if n < 99 then sa (n - 9) else la (n - 99)) s
      rw [show 10 + n = (9 + n) + 1 by omega]
      show vk_R (zcn q.1) q.2.1 q.2.2.1 (if 9 + n < 4 then ra (9 + n) else if 9 + n < 99 then sa (9 + n - 9) else la (9 + n - 99)) s
      have hn9 : n < zstr.length := (List.getElem?_eq_some_iff.mp hq).1
      have hn8 : zstr.length ≤ 80 := by decide
      rw [if_neg (by omega), if_pos (by omega), show 9 + n - 9 = n by omega]
      exact h1
    · show va_Z "ElidedLocks" (zsn k) "[I" (.ref (match 1 + k with | 0 => b | n + 1 => if n < 4 then ra n else if n < 99 then sa (n - 9) else la (n - 99))) _ s s.heap
      rw [show 1 + k = k + 1 by omega]
      show va_Z "ElidedLocks" (zsn k) "[I" (.ref (if k < 4 then ra k else if k < 99 then sa (k - 9) else la (k - 99))) _ s s.heap
      rw [if_pos hk]
      exact va_Zof (hts _ (zfl_ls k hk)) (hts _ zfl_in) (hra k hk).1 hA
    · match j, hj with
      | 0, _ => exact ⟨hbl, hX⟩
      | n + 1, hj =>
        have hn : n < 4 := by omega
        show (if n < 4 then ra n else if n < 99 then sa (n - 9) else la (n - 99)) < s.heap.size ∧ va_X (if n < 4 then ra n else if n < 99 then sa (n - 9) else la (n - 99)) _ _ s s.heap
        rw [if_pos hn]
        exact (hra n hn).2
    · have h1 := hla n q hq
      show vk_R (zcn q.1) q.2.1 q.2.2.1 (match 100 + n with | 0 => b | n + 1 => if n < 4 then ra n else if n < 99 then sa (n - 9) else la (n - 99)) s ∧ zSt (match 100 + n with | 0 => b | n + 1 => if n < 4 then ra n else if n < 99 then sa (n - 9) else la (n - 99)) _ _ s s.heap
      rw [show 100 + n = (99 + n) + 1 by omega]
      show vk_R (zcn q.1) q.2.1 q.2.2.1 (if 99 + n < 4 then ra (99 + n) else if 99 + n < 99 then sa (99 + n - 9) else la (99 + n - 99)) s ∧ zSt (if 99 + n < 4 then ra (99 + n) else if 99 + n < 99 then sa (99 + n - 9) else la (99 + n - 99)) _ _ s s.heap
      rw [if_neg (by omega), if_neg (by omega), show 99 + n - 99 = n by omega]
      exact h1
