theorem dJ9_floorMod_7cf53_0 : decode cJ9_floorMod_7cf53 0 = .ok (.iload_n 0, 1) := by decide +kernel
theorem dJ9_floorMod_7cf53_1 : decode cJ9_floorMod_7cf53 1 = .ok (.iload_n 1, 1) := by decide +kernel
theorem dJ9_floorMod_7cf53_2 : decode cJ9_floorMod_7cf53 2 = .ok (.irem, 1) := by decide +kernel
theorem dJ9_floorMod_7cf53_3 : decode cJ9_floorMod_7cf53 3 = .ok (.istore_n 2, 1) := by decide +kernel
theorem dJ9_floorMod_7cf53_4 : decode cJ9_floorMod_7cf53 4 = .ok (.iload_n 0, 1) := by decide +kernel
theorem dJ9_floorMod_7cf53_5 : decode cJ9_floorMod_7cf53 5 = .ok (.iload_n 1, 1) := by decide +kernel
theorem dJ9_floorMod_7cf53_6 : decode cJ9_floorMod_7cf53 6 = .ok (.ixor, 1) := by decide +kernel
theorem dJ9_floorMod_7cf53_7 : decode cJ9_floorMod_7cf53 7 = .ok (.ifCond .ge 11, 3) := by decide +kernel
theorem dJ9_floorMod_7cf53_10 : decode cJ9_floorMod_7cf53 10 = .ok (.iload_n 2, 1) := by decide +kernel
theorem dJ9_floorMod_7cf53_11 : decode cJ9_floorMod_7cf53 11 = .ok (.ifCond .eq 7, 3) := by decide +kernel
theorem dJ9_floorMod_7cf53_14 : decode cJ9_floorMod_7cf53 14 = .ok (.iload_n 2, 1) := by decide +kernel
theorem dJ9_floorMod_7cf53_15 : decode cJ9_floorMod_7cf53 15 = .ok (.iload_n 1, 1) := by decide +kernel
theorem dJ9_floorMod_7cf53_16 : decode cJ9_floorMod_7cf53 16 = .ok (.iadd, 1) := by decide +kernel
theorem dJ9_floorMod_7cf53_17 : decode cJ9_floorMod_7cf53 17 = .ok (.ireturn, 1) := by decide +kernel
theorem dJ9_floorMod_7cf53_18 : decode cJ9_floorMod_7cf53 18 = .ok (.iload_n 2, 1) := by decide +kernel
theorem dJ9_floorMod_7cf53_19 : decode cJ9_floorMod_7cf53 19 = .ok (.ireturn, 1) := by decide +kernel
theorem dJ0_length_8abf5_0 : decode cJ0_length_8abf5 0 = .ok (.aload_n 0, 1) := by decide +kernel
theorem dJ0_length_8abf5_1 : decode cJ0_length_8abf5 1 = .ok (.getfield 9, 3) := by decide +kernel
theorem dJ0_length_8abf5_4 : decode cJ0_length_8abf5 4 = .ok (.arraylength, 1) := by decide +kernel
theorem dJ0_length_8abf5_5 : decode cJ0_length_8abf5 5 = .ok (.aload_n 0, 1) := by decide +kernel
theorem dJ0_length_8abf5_6 : decode cJ0_length_8abf5 6 = .ok (.invokevirtual 335, 3) := by decide +kernel
theorem dJ0_length_8abf5_9 : decode cJ0_length_8abf5 9 = .ok (.ishr, 1) := by decide +kernel
theorem dJ0_length_8abf5_10 : decode cJ0_length_8abf5 10 = .ok (.ireturn, 1) := by decide +kernel
theorem dJ0_charAt_5068e_0 : decode cJ0_charAt_5068e 0 = .ok (.aload_n 0, 1) := by decide +kernel
theorem dJ0_charAt_5068e_1 : decode cJ0_charAt_5068e 1 = .ok (.invokevirtual 492, 3) := by decide +kernel
theorem dJ0_charAt_5068e_4 : decode cJ0_charAt_5068e 4 = .ok (.ifCond .eq 12, 3) := by decide +kernel
theorem dJ0_charAt_5068e_7 : decode cJ0_charAt_5068e 7 = .ok (.aload_n 0, 1) := by decide +kernel
theorem dJ0_charAt_5068e_8 : decode cJ0_charAt_5068e 8 = .ok (.getfield 9, 3) := by decide +kernel
theorem dJ0_charAt_5068e_11 : decode cJ0_charAt_5068e 11 = .ok (.iload_n 1, 1) := by decide +kernel
theorem dJ0_charAt_5068e_12 : decode cJ0_charAt_5068e 12 = .ok (.invokestatic 495, 3) := by decide +kernel
theorem dJ0_charAt_5068e_15 : decode cJ0_charAt_5068e 15 = .ok (.ireturn, 1) := by decide +kernel
theorem dJ0_charAt_5068e_16 : decode cJ0_charAt_5068e 16 = .ok (.aload_n 0, 1) := by decide +kernel
theorem dJ0_charAt_5068e_17 : decode cJ0_charAt_5068e 17 = .ok (.getfield 9, 3) := by decide +kernel
theorem dJ0_charAt_5068e_20 : decode cJ0_charAt_5068e 20 = .ok (.iload_n 1, 1) := by decide +kernel
theorem dJ0_charAt_5068e_21 : decode cJ0_charAt_5068e 21 = .ok (.invokestatic 498, 3) := by decide +kernel
theorem dJ0_charAt_5068e_24 : decode cJ0_charAt_5068e 24 = .ok (.ireturn, 1) := by decide +kernel
theorem dJ0_coder_7d493_0 : decode cJ0_coder_7d493 0 = .ok (.getstatic 38, 3) := by decide +kernel
theorem dJ0_coder_7d493_3 : decode cJ0_coder_7d493 3 = .ok (.ifCond .eq 10, 3) := by decide +kernel
theorem dJ0_coder_7d493_6 : decode cJ0_coder_7d493 6 = .ok (.aload_n 0, 1) := by decide +kernel
theorem dJ0_coder_7d493_7 : decode cJ0_coder_7d493 7 = .ok (.getfield 15, 3) := by decide +kernel
theorem dJ0_coder_7d493_10 : decode cJ0_coder_7d493 10 = .ok (.goto 4, 3) := by decide +kernel
theorem dJ0_coder_7d493_13 : decode cJ0_coder_7d493 13 = .ok (.iconst 1, 1) := by decide +kernel
theorem dJ0_coder_7d493_14 : decode cJ0_coder_7d493 14 = .ok (.ireturn, 1) := by decide +kernel
theorem dJ0_isLatin1_aae02_0 : decode cJ0_isLatin1_aae02 0 = .ok (.getstatic 38, 3) := by decide +kernel
theorem dJ0_isLatin1_aae02_3 : decode cJ0_isLatin1_aae02 3 = .ok (.ifCond .eq 14, 3) := by decide +kernel
theorem dJ0_isLatin1_aae02_6 : decode cJ0_isLatin1_aae02 6 = .ok (.aload_n 0, 1) := by decide +kernel
theorem dJ0_isLatin1_aae02_7 : decode cJ0_isLatin1_aae02 7 = .ok (.getfield 15, 3) := by decide +kernel
theorem dJ0_isLatin1_aae02_10 : decode cJ0_isLatin1_aae02 10 = .ok (.ifCond .ne 7, 3) := by decide +kernel
theorem dJ0_isLatin1_aae02_13 : decode cJ0_isLatin1_aae02 13 = .ok (.iconst 1, 1) := by decide +kernel
theorem dJ0_isLatin1_aae02_14 : decode cJ0_isLatin1_aae02 14 = .ok (.goto 4, 3) := by decide +kernel
theorem dJ0_isLatin1_aae02_17 : decode cJ0_isLatin1_aae02 17 = .ok (.iconst 0, 1) := by decide +kernel
theorem dJ0_isLatin1_aae02_18 : decode cJ0_isLatin1_aae02 18 = .ok (.ireturn, 1) := by decide +kernel
theorem dJ0_checkIndex_df160_0 : decode cJ0_checkIndex_df160 0 = .ok (.iload_n 0, 1) := by decide +kernel
theorem dJ0_checkIndex_df160_1 : decode cJ0_checkIndex_df160 1 = .ok (.iload_n 1, 1) := by decide +kernel
theorem dJ0_checkIndex_df160_2 : decode cJ0_checkIndex_df160 2 = .ok (.getstatic 1053, 3) := by decide +kernel
theorem dJ0_checkIndex_df160_5 : decode cJ0_checkIndex_df160 5 = .ok (.invokestatic 1059, 3) := by decide +kernel
theorem dJ0_checkIndex_df160_8 : decode cJ0_checkIndex_df160 8 = .ok (.pop, 1) := by decide +kernel
theorem dJ0_checkIndex_df160_9 : decode cJ0_checkIndex_df160 9 = .ok (.return_, 1) := by decide +kernel
theorem dJ1_charAt_3b067_0 : decode cJ1_charAt_3b067 0 = .ok (.iload_n 1, 1) := by decide +kernel
theorem dJ1_charAt_3b067_1 : decode cJ1_charAt_3b067 1 = .ok (.aload_n 0, 1) := by decide +kernel
theorem dJ1_charAt_3b067_2 : decode cJ1_charAt_3b067 2 = .ok (.arraylength, 1) := by decide +kernel
theorem dJ1_charAt_3b067_3 : decode cJ1_charAt_3b067 3 = .ok (.invokestatic 9, 3) := by decide +kernel
theorem dJ1_charAt_3b067_6 : decode cJ1_charAt_3b067 6 = .ok (.aload_n 0, 1) := by decide +kernel
theorem dJ1_charAt_3b067_7 : decode cJ1_charAt_3b067 7 = .ok (.iload_n 1, 1) := by decide +kernel
theorem dJ1_charAt_3b067_8 : decode cJ1_charAt_3b067 8 = .ok (.baload, 1) := by decide +kernel
theorem dJ1_charAt_3b067_9 : decode cJ1_charAt_3b067 9 = .ok (.sipush 255, 3) := by decide +kernel
theorem dJ1_charAt_3b067_12 : decode cJ1_charAt_3b067 12 = .ok (.iand, 1) := by decide +kernel
theorem dJ1_charAt_3b067_13 : decode cJ1_charAt_3b067 13 = .ok (.i2c, 1) := by decide +kernel
theorem dJ1_charAt_3b067_14 : decode cJ1_charAt_3b067 14 = .ok (.ireturn, 1) := by decide +kernel
theorem dJ3_checkIndex_8e157_0 : decode cJ3_checkIndex_8e157 0 = .ok (.iload_n 0, 1) := by decide +kernel
theorem dJ3_checkIndex_8e157_1 : decode cJ3_checkIndex_8e157 1 = .ok (.ifCond .lt 8, 3) := by decide +kernel
theorem dJ3_checkIndex_8e157_4 : decode cJ3_checkIndex_8e157 4 = .ok (.iload_n 0, 1) := by decide +kernel
theorem dJ3_checkIndex_8e157_5 : decode cJ3_checkIndex_8e157 5 = .ok (.iload_n 1, 1) := by decide +kernel
theorem dJ3_checkIndex_8e157_6 : decode cJ3_checkIndex_8e157 6 = .ok (.if_icmp .lt 10, 3) := by decide +kernel
theorem dJ3_checkIndex_8e157_9 : decode cJ3_checkIndex_8e157 9 = .ok (.aload_n 2, 1) := by decide +kernel
theorem dJ3_checkIndex_8e157_10 : decode cJ3_checkIndex_8e157 10 = .ok (.iload_n 0, 1) := by decide +kernel
theorem dJ3_checkIndex_8e157_11 : decode cJ3_checkIndex_8e157 11 = .ok (.iload_n 1, 1) := by decide +kernel
theorem dJ3_checkIndex_8e157_12 : decode cJ3_checkIndex_8e157 12 = .ok (.invokestatic 95, 3) := by decide +kernel
theorem dJ3_checkIndex_8e157_15 : decode cJ3_checkIndex_8e157 15 = .ok (.athrow, 1) := by decide +kernel
theorem dJ3_checkIndex_8e157_16 : decode cJ3_checkIndex_8e157 16 = .ok (.iload_n 0, 1) := by decide +kernel
theorem dJ3_checkIndex_8e157_17 : decode cJ3_checkIndex_8e157 17 = .ok (.ireturn, 1) := by decide +kernel
/-! the JDK's methods that are asked of texts, and floorMod: each leaves the memory as it was -/
section ZJ
variable {p : Program} {l : Launch} {e : Env} {R : Room} {s : State} {m : MethodId} {args : Array Value} {below : List Frame} {meth : Method} {c : Code} {H : Heap} {locs : List Loc} {cells slots : Nat} {Q : State → Prop} {A : Nat → Prop} {cc : ByteArray} {ls : Array Slot} {pc : Nat} {rest st : List Value}
noncomputable def zjr (f n : Nat) : Room := { frames := f, cells := 0, slots := 0, locals := n }
noncomputable def zjQ (v : Option Value) : Array Value → State → Outcome → State → Prop := fun _ st o t => o = .returned v ∧ t.heap = st.heap
noncomputable abbrev zjM (l : Launch) (y : MethodName) (bc : ByteArray) (maxL : Nat) (ret : Option FieldType) (f n : Nat) (Pc : Array Value → State → Prop) (v : Option Value) : Prop := Met l y (Cond.code y bc maxL ret :: zWs) (zjr f n) Pc (zjQ v) 0 0 (fun _ => False)
/-- behind a call of such a method -/
theorem zjgo {v : Option Value} {a : Array Value} (hr : va_Run p l e R s m args below meth c H locs cells slots 0 0 (F0 m pc ls st) rest (zjQ v a) (fun _ => False)) (k : W p l e R s m args below meth c H locs cells slots Q (F0 m (pc + 3) ls (v.toList ++ rest))) : W p l e R s m args below meth c H locs cells slots Q (F0 m pc ls st) := by
  intro T hT X
  obtain ⟨v', st₀, t, T', L, h0, X', hL, e1, e2, ⟨hv, hh⟩, hgo⟩ := hr T hT X
  cases hv
  have hn : L = [] := by
    cases L with
    | nil => rfl
    | cons q L => exact absurd (hL q List.mem_cons_self) id
  subst hn
  rw [List.append_nil] at X'
  obtain ⟨t2, a1, b1⟩ := k T' (by rw [e1, hh, h0]) X'
  exact ⟨t2, hgo t2 a1, b1⟩
theorem zjent (as : List Value) {n : Nat} (h : (lg_sl as).length ≤ n) (m : MethodId) : ∃ ls : Array Slot, entryFrame m as.toArray n = F0 m 0 ls [] ∧ lv_has ls n (lv_args 0 as) := ⟨_, lg_entry_eq m as n, lv_entry as h⟩
theorem zjB {y : MethodName} {bc : ByteArray} {maxL f n idx np : Nat} {ret : Option FieldType} {own : String} (hts : ∀ w ∈ zWs, w.before args s = true) (hc : Cond.code y bc maxL ret ∈ zWs) (hi : Cond.initialized y.cls ∈ zWs) (hlk : Cond.methodLink own idx y ∈ zWs) (hd : y.cls ≠ "java/lang/invoke/MethodHandle" ∧ y.cls ≠ "java/lang/invoke/VarHandle") (hp : (parseMethodDescriptor y.desc).map (fun d => d.parameters.length) = some np) (hf : f + 1 ≤ R.frames) (hl : 8 + (maxL + 11) + n ≤ R.locals) : CallB R s args own idx y bc maxL ret (Cond.code y bc maxL ret :: zWs) (zjr f n) 0 0 np := by
  refine ⟨rfl, rfl, hf, hl, fun w hw a' U hW => ?_, List.mem_cons_self, hts _ hc, hts _ hi, hd, zpar hp, hts _ hlk⟩
  rcases List.mem_cons.mp hw with rfl | hw
  · exact zws_warm hts hc a' U hW
  · exact zws_warm hts hw a' U hW
theorem zjc1 : Cond.code yJ3_checkIndex_8e157 cJ3_checkIndex_8e157 3 (some .int) ∈ zWs := zin_of (i := 822) (by decide +kernel) rfl
theorem zjc2 : Cond.code yJ0_checkIndex_df160 cJ0_checkIndex_df160 2 none ∈ zWs := zin_of (i := 817) (by decide +kernel) rfl
theorem zjc3 : Cond.code yJ1_charAt_3b067 cJ1_charAt_3b067 2 (some .char) ∈ zWs := zin_of (i := 814) (by decide +kernel) rfl
theorem zjc4 : Cond.code yJ0_isLatin1_aae02 cJ0_isLatin1_aae02 1 (some .boolean) ∈ zWs := zin_of (i := 811) (by decide +kernel) rfl
theorem zjc5 : Cond.code yJ0_coder_7d493 cJ0_coder_7d493 1 (some .byte) ∈ zWs := zin_of (i := 801) (by decide +kernel) rfl
theorem zjc6 : Cond.code yJ0_length_8abf5 cJ0_length_8abf5 1 (some .int) ∈ zWs := zin_of (i := 797) (by decide +kernel) rfl
theorem zjc7 : Cond.code yJ0_charAt_5068e cJ0_charAt_5068e 2 (some .char) ∈ zWs := zin_of (i := 807) (by decide +kernel) rfl
theorem zjc8 : Cond.code yJ9_floorMod_7cf53 cJ9_floorMod_7cf53 3 (some .int) ∈ zWs := zin_of (i := 1261) (by decide +kernel) rfl
theorem zji0 : Cond.initialized RJ0 ∈ zWs := zin_of (i := 119) (by decide +kernel) rfl
theorem zji1 : Cond.initialized RJ1 ∈ zWs := zin_of (i := 120) (by decide +kernel) rfl
theorem zji3 : Cond.initialized RJ3 ∈ zWs := zin_of (i := 121) (by decide +kernel) rfl
theorem zjs1 : Cond.static yJ3_checkIndex_8e157 ∈ zWs := zin_of (i := 821) (by decide +kernel) rfl
theorem zjs2 : Cond.static yJ0_checkIndex_df160 ∈ zWs := zin_of (i := 816) (by decide +kernel) rfl
theorem zjs3 : Cond.static yJ1_charAt_3b067 ∈ zWs := zin_of (i := 813) (by decide +kernel) rfl
theorem zjn4 : Cond.instanceMethod yJ0_isLatin1_aae02 ∈ zWs := zin_of (i := 809) (by decide +kernel) rfl
theorem zjn5 : Cond.instanceMethod yJ0_coder_7d493 ∈ zWs := zin_of (i := 799) (by decide +kernel) rfl
theorem zjn6 : Cond.instanceMethod yJ0_length_8abf5 ∈ zWs := zin_of (i := 795) (by decide +kernel) rfl
theorem zjn7 : Cond.instanceMethod yJ0_charAt_5068e ∈ zWs := zin_of (i := 805) (by decide +kernel) rfl
theorem zje4 : Cond.selects RJ0 yJ0_isLatin1_aae02 yJ0_isLatin1_aae02 ∈ zWs := zin_of (i := 810) (by decide +kernel) rfl
theorem zje5 : Cond.selects RJ0 yJ0_coder_7d493 yJ0_coder_7d493 ∈ zWs := zin_of (i := 800) (by decide +kernel) rfl
theorem zje6 : Cond.selects RJ0 yJ0_length_8abf5 yJ0_length_8abf5 ∈ zWs := zin_of (i := 796) (by decide +kernel) rfl
theorem zje7 : Cond.selects RJ0 yJ0_charAt_5068e yJ0_charAt_5068e ∈ zWs := zin_of (i := 806) (by decide +kernel) rfl
theorem zjl1 : Cond.methodLink RJ0 1059 yJ3_checkIndex_8e157 ∈ zWs := zin_of (i := 820) (by decide +kernel) rfl
theorem zjl2 : Cond.methodLink RJ1 9 yJ0_checkIndex_df160 ∈ zWs := zin_of (i := 815) (by decide +kernel) rfl
theorem zjl3 : Cond.methodLink RJ0 495 yJ1_charAt_3b067 ∈ zWs := zin_of (i := 812) (by decide +kernel) rfl
theorem zjl4 : Cond.methodLink RJ0 492 yJ0_isLatin1_aae02 ∈ zWs := zin_of (i := 808) (by decide +kernel) rfl
theorem zjl5 : Cond.methodLink RJ0 335 yJ0_coder_7d493 ∈ zWs := zin_of (i := 798) (by decide +kernel) rfl
theorem zjf1 : Cond.fieldLink RJ0 1053 RJ3 "SIOOBE_FORMATTER" "Ljava/util/function/BiFunction;" ∈ zWs := zin_of (i := 818) (by decide +kernel) rfl
theorem zjf2 : Cond.fieldLink RJ0 38 RJ0 "COMPACT_STRINGS" "Z" ∈ zWs := zin_of (i := 802) (by decide +kernel) rfl
theorem zjf3 : Cond.fieldLink RJ0 9 RJ0 "value" "[B" ∈ zWs := zin_of (i := 1839) (by decide +kernel) rfl
theorem zjf4 : Cond.fieldLink RJ0 15 RJ0 "coder" "B" ∈ zWs := zin_of (i := 1840) (by decide +kernel) rfl
/-- Preconditions.checkIndex -/
noncomputable def zjP1 (i n : Int32) (f : Value) : Array Value → State → Prop := fun a _ => a = ([.int i, .int n, f] : List Value).toArray
theorem zjm1 {i n : Int32} {f : Value} (hf : f = .null ∨ ∃ t, f = .ref t) (h1 : ¬ i < 0) (h2 : i < n) : zjM l yJ3_checkIndex_8e157 cJ3_checkIndex_8e157 3 (some .int) 0 0 (zjP1 i n f) (some (.int i)) := by
  refine va_MetF (cc := cJ3_checkIndex_8e157) (maxL := 3) (ret := some .int) (by decide +kernel) rfl ?_
  intro p e s m args below meth c s₁ B hml hP
  have hx := B.exec
  have hb := B.bytes
  obtain rfl : args = ([.int i, .int n, f] : List Value).toArray := hP
  obtain ⟨ls, he, hl⟩ := zjent [.int i, .int n, f] (n := 3) (by rcases hf with rfl | ⟨t, rfl⟩ <;> exact Nat.le_refl _) m
  rw [he]
  have l0 : ls[0]? = some (.val (.int i)) := hl.2.2 (0, .int i) List.mem_cons_self
  have l1 : ls[1]? = some (.val (.int n)) := hl.2.2 (1, .int n) (List.mem_cons_of_mem _ List.mem_cons_self)
  refine lv_iload_n hx hb dJ3_checkIndex_8e157_0 rfl l0 ?_
  refine lv_if_lt hx hb dJ3_checkIndex_8e157_1 (tgt := 9) rfl (fun h => absurd h h1) (fun _ => ?_)
  refine lv_iload_n hx hb dJ3_checkIndex_8e157_4 rfl l0 ?_
  refine lv_iload_n hx hb dJ3_checkIndex_8e157_5 rfl l1 ?_
  refine lv_icmp_lt hx hb dJ3_checkIndex_8e157_6 (tgt := 16) rfl (fun _ => ?_) (fun h => absurd h2 h)
  refine lv_iload_n hx hb dJ3_checkIndex_8e157_16 rfl l0 ?_
  exact W.iret hx hb B.returns (fun t ht _ => ⟨rfl, ht⟩) (fun q h => nomatch h) dJ3_checkIndex_8e157_17 B.notSynchronized
theorem zjP1_b {i n : Int32} {f : Value} : FrameBlind (zjP1 i n f) := fun _ _ _ _ h => h
noncomputable abbrev zjF (A : Nat → Prop) (U : State) : Prop := va_Zq RJ3 "SIOOBE_FORMATTER" "Ljava/util/function/BiFunction;" A U U.heap
noncomputable abbrev zjC (A : Nat → Prop) (U : State) : Prop := va_Z RJ0 "COMPACT_STRINGS" "Z" (.int 1) A U U.heap
/-- String.checkIndex -/
noncomputable def zjP2 (A : Nat → Prop) (i n : Int32) : Array Value → State → Prop := fun a U => a = ([.int i, .int n] : List Value).toArray ∧ zjF A U
theorem zjm2 {i n : Int32} (h1 : ¬ i < 0) (h2 : i < n) : zjM l yJ0_checkIndex_df160 cJ0_checkIndex_df160 2 none 1 22 (zjP2 A i n) none := by
  refine va_MetF (cc := cJ0_checkIndex_df160) (maxL := 2) (ret := none) (by decide +kernel) rfl ?_
  intro p e s m args below meth c s₁ B hml hP
  have hx := B.exec
  have hb := B.bytes
  obtain ⟨rfl, hF⟩ := hP
  have hts0 := atoms_spec (ws := Cond.code yJ0_checkIndex_df160 cJ0_checkIndex_df160 2 none :: zWs) B.pre
  have hts : ∀ w ∈ zWs, w.before ([.int i, .int n] : List Value).toArray s = true := fun w hw => hts0 w (List.mem_cons_of_mem _ hw)
  have hown : s.vm.findClass RJ0 = some m.cls := findClass_of_methodNamed B.named
  obtain ⟨ls, he, hl⟩ := zjent [.int i, .int n] (n := 2) (Nat.le_refl _) m
  rw [he]
  have l0 : ls[0]? = some (.val (.int i)) := hl.2.2 (0, .int i) List.mem_cons_self
  have l1 : ls[1]? = some (.val (.int n)) := hl.2.2 (1, .int n) (List.mem_cons_of_mem _ List.mem_cons_self)
  refine lv_iload_n hx hb dJ0_checkIndex_df160_0 rfl l0 ?_
  refine lv_iload_n hx hb dJ0_checkIndex_df160_1 rfl l1 ?_
  have key : ∀ f : Value, (f = .null ∨ ∃ t, f = .ref t) → va_Z RJ3 "SIOOBE_FORMATTER" "Ljava/util/function/BiFunction;" f A s s.heap → W p l e (headSpec (Cond.code yJ0_checkIndex_df160 cJ0_checkIndex_df160 2 none :: zWs) (zjr 1 22)).room s m ([.int i, .int n] : List Value).toArray below meth c s.heap [] 0 0 (MQ below (zjQ none) ([.int i, .int n] : List Value).toArray s 0 0 (fun _ => False)) (F0 m 2 ls [.int n, .int i]) := by
    intro f hf hZ
    refine va_gets hx hb hZ va_S.rf hown (hts _ zjf1) (fun x hx => hx) dJ0_checkIndex_df160_2 ?_
    refine zjgo (va_runS (As := [.int i, .int n, f]) ⟨hx, hb, hml, hown, hts⟩ (zjm1 hf h1 h2) ⟨zjB (np := 3) hts zjc1 zji3 zjl1 ⟨by decide, by decide⟩ (by decide +kernel) (by show 0 + 1 ≤ 1; omega) (by show 8 + (3 + 11) + 0 ≤ 22; omega), hts _ zjs1⟩ ⟨zjP1_b, fun U _ _ => rfl⟩ rfl rfl hl.1 rfl (by show 2 * 0 + 0 ≤ 8; omega) dJ0_checkIndex_df160_5 ⟨Nat.le_refl _, Nat.le_refl _⟩) ?_
    refine lv_pop hx hb dJ0_checkIndex_df160_8 rfl ?_
    exact W.vret hx hb B.returns (fun t ht _ => ⟨rfl, ht⟩) (fun q h => nomatch h) dJ0_checkIndex_df160_9 B.notSynchronized
  rcases hF with hF | ⟨t, hF⟩
  · exact key .null (Or.inl rfl) hF
  · exact key (.ref t) (Or.inr ⟨t, rfl⟩) hF
theorem zjF_b {U : State} {g : JFrame} {mk : MethodId} {a : Array Value} (h : zjF A U) : zjF A (U.calling g mk a) := va_Zq.moved (u := U) (U := U.calling g mk a) (Vm.Alike.refl U.vm) h
theorem zjC_b {U : State} {g : JFrame} {mk : MethodId} {a : Array Value} (h : zjC A U) : zjC A (U.calling g mk a) := va_Z.moved (u := U) (U := U.calling g mk a) (Vm.Alike.refl U.vm) h
theorem zjF_m {U : State} (h : zjF A s) (hU : U.heap = s.heap) (hW : s.WarmedH U.vm) : zjF A U := by
  unfold zjF
  rw [hU]
  exact va_Zq.moved hW.alike h
theorem zjC_m {U : State} (h : zjC A s) (hU : U.heap = s.heap) (hW : s.WarmedH U.vm) : zjC A U := by
  unfold zjC
  rw [hU]
  exact va_Z.moved hW.alike h
theorem zjP2_b {i n : Int32} : FrameBlind (zjP2 A i n) := fun _ _ _ _ h => ⟨h.1, zjF_b h.2⟩
/-- StringLatin1.charAt -/
noncomputable def zjch (b : Int32) : Int32 := ((b &&& 255).toUInt32 % 65536).toInt32
noncomputable def zjP3 (A : Nat → Prop) (v : Nat) (i : Int32) (bs : List Int32) : Array Value → State → Prop := fun a U => a = ([.ref v, .int i] : List Value).toArray ∧ zjF A U ∧ va_T .byte v bs.length (fun j => .int (bs.getD j 0)) A U U.heap
theorem zlt_in {i : Int32} {n : Nat} (hn : n < 2 ^ 31) (h : vp_in i n) : ¬ i < 0 ∧ i < Int32.ofNat n := by
  have h1 : ¬ i < 0 := fun q => h (Or.inl q)
  have h2 : i.toNatClampNeg < n := Nat.not_le.mp (fun q => h (Or.inr q))
  refine ⟨h1, ?_⟩
  rw [Int32.lt_iff_toInt_lt, Int32.toInt_ofNat_of_lt hn]
  have h0 : (0 : Int) ≤ i.toInt := by
    have := Int32.not_lt.mp h1
    simpa using Int32.le_iff_toInt_le.mp this
  have e : i.toInt.toNat < n := h2
  omega
theorem zjm3 {v : Nat} {i : Int32} {bs : List Int32} (hn : bs.length < 2 ^ 31) (hi : vp_in i bs.length) {x : Int32} (hv : zjch (bs.getD i.toNatClampNeg 0) = x) (hc : narrow .char (.int x) = .int x) : zjM l yJ1_charAt_3b067 cJ1_charAt_3b067 2 (some .char) 2 43 (zjP3 A v i bs) (some (.int x)) := by
  refine va_MetF (cc := cJ1_charAt_3b067) (maxL := 2) (ret := some .char) (by decide +kernel) rfl ?_
  intro p e s m args below meth c s₁ B hml hP
  have hx := B.exec
  have hb := B.bytes
  obtain ⟨rfl, hF, hT⟩ := hP
  have hts0 := atoms_spec (ws := Cond.code yJ1_charAt_3b067 cJ1_charAt_3b067 2 (some .char) :: zWs) B.pre
  have hts : ∀ w ∈ zWs, w.before ([.ref v, .int i] : List Value).toArray s = true := fun w hw => hts0 w (List.mem_cons_of_mem _ hw)
  have hown : s.vm.findClass RJ1 = some m.cls := findClass_of_methodNamed B.named
  obtain ⟨ls, he, hl⟩ := zjent [.ref v, .int i] (n := 2) (Nat.le_refl _) m
  rw [he]
  have l0 : ls[0]? = some (.val (.ref v)) := hl.2.2 (0, .ref v) List.mem_cons_self
  have l1 : ls[1]? = some (.val (.int i)) := hl.2.2 (1, .int i) (List.mem_cons_of_mem _ List.mem_cons_self)
  obtain ⟨g1, g2⟩ := zlt_in hn hi
  refine lv_iload_n hx hb dJ1_charAt_3b067_0 rfl l1 ?_
  refine lv_aload_n hx hb dJ1_charAt_3b067_1 rfl l0 ?_
  refine va_tlen hx hb hT va_S.rf rfl dJ1_charAt_3b067_2 ?_
  refine zjgo (va_runS (As := [.int i, .int (Int32.ofNat bs.length)]) ⟨hx, hb, hml, hown, hts⟩ (zjm2 (A := A) g1 g2) ⟨zjB (np := 2) hts zjc2 zji0 zjl2 ⟨by decide, by decide⟩ (by decide +kernel) (by show 1 + 1 ≤ 2; omega) (by show 8 + (2 + 11) + 22 ≤ 43; omega), hts _ zjs2⟩ ⟨zjP2_b, fun U hU hW => ⟨rfl, zjF_m hF hU hW⟩⟩ rfl rfl hl.1 rfl (by show 2 * 0 + 0 ≤ 8; omega) dJ1_charAt_3b067_3 ⟨Nat.le_refl _, Nat.le_refl _⟩) ?_
  refine lv_aload_n hx hb dJ1_charAt_3b067_6 rfl l0 ?_
  refine lv_iload_n hx hb dJ1_charAt_3b067_7 rfl l1 ?_
  refine va_tb hx hb hT va_S.rf hi rfl dJ1_charAt_3b067_8 ?_
  refine lv_sipush hx hb dJ1_charAt_3b067_9 (v := 255) (by decide) ?_
  refine lv_iand hx hb dJ1_charAt_3b067_12 ?_
  refine lv_i2c hx hb dJ1_charAt_3b067_13 hv ?_
  exact W.zret hx hb B.returns hc (fun t ht _ => ⟨rfl, ht⟩) (fun q h => nomatch h) dJ1_charAt_3b067_14 B.notSynchronized
/-- isLatin1, coder -/
noncomputable def zjP4 (A : Nat → Prop) (a : Nat) : Array Value → State → Prop := fun x U => x = ([.ref a] : List Value).toArray ∧ zjC A U ∧ va_OF RJ0 "coder" "B" (.int 0) a A U U.heap
theorem zjP4_b {a : Nat} : FrameBlind (zjP4 A a) := fun x U g mk h => ⟨h.1, zjC_b h.2.1, va_OF.moved (u := U) (U := U.calling g mk x) (Vm.Alike.refl U.vm) h.2.2⟩
theorem zjP3_b {v : Nat} {i : Int32} {bs : List Int32} : FrameBlind (zjP3 A v i bs) := fun x U g mk h => ⟨h.1, zjF_b h.2.1, va_T.moved (u := U) (U := U.calling g mk x) (Vm.Alike.refl U.vm) h.2.2⟩
theorem zjm4 {a : Nat} : zjM l yJ0_isLatin1_aae02 cJ0_isLatin1_aae02 1 (some .boolean) 0 0 (zjP4 A a) (some (.int 1)) := by
  refine va_MetF (cc := cJ0_isLatin1_aae02) (maxL := 1) (ret := some .boolean) (by decide +kernel) rfl ?_
  intro p e s m args below meth c s₁ B hml hP
  have hx := B.exec
  have hb := B.bytes
  obtain ⟨rfl, hC, hO⟩ := hP
  have hts0 := atoms_spec (ws := Cond.code yJ0_isLatin1_aae02 cJ0_isLatin1_aae02 1 (some .boolean) :: zWs) B.pre
  have hts : ∀ w ∈ zWs, w.before ([.ref a] : List Value).toArray s = true := fun w hw => hts0 w (List.mem_cons_of_mem _ hw)
  have hown : s.vm.findClass RJ0 = some m.cls := findClass_of_methodNamed B.named
  obtain ⟨ls, he, hl⟩ := zjent [.ref a] (n := 1) (Nat.le_refl _) m
  rw [he]
  have l0 : ls[0]? = some (.val (.ref a)) := hl.2.2 (0, .ref a) List.mem_cons_self
  refine va_gets hx hb hC va_S.rf hown (hts _ zjf2) (fun x hx => hx) dJ0_isLatin1_aae02_0 ?_
  refine lv_if_eq hx hb dJ0_isLatin1_aae02_3 (tgt := 17) rfl (fun h => absurd h (by decide)) (fun _ => ?_)
  refine lv_aload_n hx hb dJ0_isLatin1_aae02_6 rfl l0 ?_
  refine vk_getf hx hb hO va_S.rf hown (hts _ zjf4) (fun x hx => hx) dJ0_isLatin1_aae02_7 ?_
  refine lv_if_ne hx hb dJ0_isLatin1_aae02_10 (tgt := 17) rfl (fun h => absurd rfl h) (fun _ => ?_)
  refine lv_iconst hx hb dJ0_isLatin1_aae02_13 (v := 1) (by decide) ?_
  refine lv_goto hx hb dJ0_isLatin1_aae02_14 (tgt := 18) rfl ?_
  exact W.zret hx hb B.returns (by decide) (fun t ht _ => ⟨rfl, ht⟩) (fun q h => nomatch h) dJ0_isLatin1_aae02_18 B.notSynchronized
theorem zjm5 {a : Nat} : zjM l yJ0_coder_7d493 cJ0_coder_7d493 1 (some .byte) 0 0 (zjP4 A a) (some (.int 0)) := by
  refine va_MetF (cc := cJ0_coder_7d493) (maxL := 1) (ret := some .byte) (by decide +kernel) rfl ?_
  intro p e s m args below meth c s₁ B hml hP
  have hx := B.exec
  have hb := B.bytes
  obtain ⟨rfl, hC, hO⟩ := hP
  have hts0 := atoms_spec (ws := Cond.code yJ0_coder_7d493 cJ0_coder_7d493 1 (some .byte) :: zWs) B.pre
  have hts : ∀ w ∈ zWs, w.before ([.ref a] : List Value).toArray s = true := fun w hw => hts0 w (List.mem_cons_of_mem _ hw)
  have hown : s.vm.findClass RJ0 = some m.cls := findClass_of_methodNamed B.named
  obtain ⟨ls, he, hl⟩ := zjent [.ref a] (n := 1) (Nat.le_refl _) m
  rw [he]
  have l0 : ls[0]? = some (.val (.ref a)) := hl.2.2 (0, .ref a) List.mem_cons_self
  refine va_gets hx hb hC va_S.rf hown (hts _ zjf2) (fun x hx => hx) dJ0_coder_7d493_0 ?_
  refine lv_if_eq hx hb dJ0_coder_7d493_3 (tgt := 13) rfl (fun h => absurd h (by decide)) (fun _ => ?_)
  refine lv_aload_n hx hb dJ0_coder_7d493_6 rfl l0 ?_
  refine vk_getf hx hb hO va_S.rf hown (hts _ zjf4) (fun x hx => hx) dJ0_coder_7d493_7 ?_
  refine lv_goto hx hb dJ0_coder_7d493_10 (tgt := 14) rfl ?_
  exact W.zret hx hb B.returns (by decide) (fun t ht _ => ⟨rfl, ht⟩) (fun q h => nomatch h) dJ0_coder_7d493_14 B.notSynchronized
noncomputable def zjP6 (A : Nat → Prop) (a : Nat) (bs : List Int32) (as : List Value) : Array Value → State → Prop := fun x U => x = (Value.ref a :: as).toArray ∧ zSt a bs A U U.heap ∧ zjC A U ∧ zjF A U
theorem zjP6_b {a : Nat} {bs : List Int32} {as : List Value} : FrameBlind (zjP6 A a bs as) := fun x U g mk h => ⟨h.1, zSt.moved (u := U) (U := U.calling g mk x) (Vm.Alike.refl U.vm) h.2.1, zjC_b h.2.2.1, zjF_b h.2.2.2⟩
theorem zshr0 (x : Int32) : x >>> ((0 : Int32) &&& 31) = x := by
  have h : ((0 : Int32) &&& 31) = 0 := by decide
  rw [h]
  apply Int32.toBitVec_inj.mp
  simp
/-- length -/
theorem zjm6 {a : Nat} {bs : List Int32} : zjM l yJ0_length_8abf5 cJ0_length_8abf5 1 (some .int) 1 20 (zjP6 A a bs []) (some (.int (Int32.ofNat bs.length))) := by
  refine va_MetF (cc := cJ0_length_8abf5) (maxL := 1) (ret := some .int) (by decide +kernel) rfl ?_
  intro p e s m args below meth c s₁ B hml hP
  have hx := B.exec
  have hb := B.bytes
  obtain ⟨rfl, ⟨hO, hc0, v, hv, hT⟩, hC, hF⟩ := hP
  have hts0 := atoms_spec (ws := Cond.code yJ0_length_8abf5 cJ0_length_8abf5 1 (some .int) :: zWs) B.pre
  have hts : ∀ w ∈ zWs, w.before ([.ref a] : List Value).toArray s = true := fun w hw => hts0 w (List.mem_cons_of_mem _ hw)
  have hown : s.vm.findClass RJ0 = some m.cls := findClass_of_methodNamed B.named
  obtain ⟨ls, he, hl⟩ := zjent [.ref a] (n := 1) (Nat.le_refl _) m
  rw [he]
  have l0 : ls[0]? = some (.val (.ref a)) := hl.2.2 (0, .ref a) List.mem_cons_self
  refine lv_aload_n hx hb dJ0_length_8abf5_0 rfl l0 ?_
  refine vk_getf hx hb hv va_S.rf hown (hts _ zjf3) (fun x hx => hx) dJ0_length_8abf5_1 ?_
  refine va_tlen hx hb hT va_S.rf rfl dJ0_length_8abf5_4 ?_
  refine lv_aload_n hx hb dJ0_length_8abf5_5 rfl l0 ?_
  have hrv : ∃ cell : Cell, s.heap[a]? = some cell ∧ cell.vm.isStatics = false ∧ s.vm.findClass RJ0 = some cell.cls := by
    obtain ⟨cell, h1, h2, h3, -⟩ := hO
    exact ⟨cell, h1, h2, h3⟩
  refine zjgo (va_runV (C := RJ0) (b := a) (As := []) ⟨hx, hb, hml, hown, hts⟩ (zjm5 (A := A)) ⟨zjB (np := 0) hts zjc5 zji0 zjl5 ⟨by decide, by decide⟩ (by decide +kernel) (by show 0 + 1 ≤ 1; omega) (by show 8 + (1 + 11) + 0 ≤ 20; omega), hts _ zjn5, hts _ zje5⟩ ⟨zjP4_b, hrv, fun U hU hW => ⟨rfl, zjC_m hC hU hW, by rw [hU]; exact va_OF.moved hW.alike hc0⟩⟩ rfl rfl hl.1 rfl (by show 2 * 0 + 1 ≤ 8; omega) dJ0_length_8abf5_6 ⟨Nat.le_refl _, Nat.le_refl _⟩) ?_
  refine lv_ishr hx hb dJ0_length_8abf5_9 ?_
  rw [zshr0]
  exact W.iret hx hb B.returns (fun t ht _ => ⟨rfl, ht⟩) (fun q h => nomatch h) dJ0_length_8abf5_10 B.notSynchronized
/-- charAt -/
theorem zjm7 {a : Nat} {bs : List Int32} {i : Int32} (hn : bs.length < 2 ^ 31) (hi : vp_in i bs.length) {x : Int32} (hv : zjch (bs.getD i.toNatClampNeg 0) = x) (hc : narrow .char (.int x) = .int x) : zjM l yJ0_charAt_5068e cJ0_charAt_5068e 2 (some .char) 3 64 (zjP6 A a bs [.int i]) (some (.int x)) := by
  refine va_MetF (cc := cJ0_charAt_5068e) (maxL := 2) (ret := some .char) (by decide +kernel) rfl ?_
  intro p e s m args below meth c s₁ B hml hP
  have hx := B.exec
  have hb := B.bytes
  obtain ⟨rfl, ⟨hO, hc0, v, hva, hT⟩, hC, hF⟩ := hP
  have hts0 := atoms_spec (ws := Cond.code yJ0_charAt_5068e cJ0_charAt_5068e 2 (some .char) :: zWs) B.pre
  have hts : ∀ w ∈ zWs, w.before ([.ref a, .int i] : List Value).toArray s = true := fun w hw => hts0 w (List.mem_cons_of_mem _ hw)
  have hown : s.vm.findClass RJ0 = some m.cls := findClass_of_methodNamed B.named
  obtain ⟨ls, he, hl⟩ := zjent [.ref a, .int i] (n := 2) (Nat.le_refl _) m
  rw [he]
  have l0 : ls[0]? = some (.val (.ref a)) := hl.2.2 (0, .ref a) List.mem_cons_self
  have l1 : ls[1]? = some (.val (.int i)) := hl.2.2 (1, .int i) (List.mem_cons_of_mem _ List.mem_cons_self)
  have hrv : ∃ cell : Cell, s.heap[a]? = some cell ∧ cell.vm.isStatics = false ∧ s.vm.findClass RJ0 = some cell.cls := by
    obtain ⟨cell, h1, h2, h3, -⟩ := hO
    exact ⟨cell, h1, h2, h3⟩
  refine lv_aload_n hx hb dJ0_charAt_5068e_0 rfl l0 ?_
  refine zjgo (va_runV (C := RJ0) (b := a) (As := []) ⟨hx, hb, hml, hown, hts⟩ (zjm4 (A := A)) ⟨zjB (np := 0) hts zjc4 zji0 zjl4 ⟨by decide, by decide⟩ (by decide +kernel) (by show 0 + 1 ≤ 3; omega) (by show 8 + (1 + 11) + 0 ≤ 64; omega), hts _ zjn4, hts _ zje4⟩ ⟨zjP4_b, hrv, fun U hU hW => ⟨rfl, zjC_m hC hU hW, by rw [hU]; exact va_OF.moved hW.alike hc0⟩⟩ rfl rfl hl.1 rfl (by show 2 * 0 + 0 ≤ 8; omega) dJ0_charAt_5068e_1 ⟨Nat.le_refl _, Nat.le_refl _⟩) ?_
  refine lv_if_eq hx hb dJ0_charAt_5068e_4 (tgt := 16) rfl (fun h => absurd h (by decide)) (fun _ => ?_)
  refine lv_aload_n hx hb dJ0_charAt_5068e_7 rfl l0 ?_
  refine vk_getf hx hb hva va_S.rf hown (hts _ zjf3) (fun x hx => hx) dJ0_charAt_5068e_8 ?_
  refine lv_iload_n hx hb dJ0_charAt_5068e_11 rfl l1 ?_
  refine zjgo (va_runS (As := [.ref v, .int i]) ⟨hx, hb, hml, hown, hts⟩ (zjm3 (A := A) hn hi hv hc) ⟨zjB (np := 2) hts zjc3 zji1 zjl3 ⟨by decide, by decide⟩ (by decide +kernel) (by show 2 + 1 ≤ 3; omega) (by show 8 + (2 + 11) + 43 ≤ 64; omega), hts _ zjs3⟩ ⟨zjP3_b, fun U hU hW => ⟨rfl, zjF_m hF hU hW, by rw [hU]; exact va_T.moved hW.alike hT⟩⟩ rfl rfl hl.1 rfl (by show 2 * 0 + 0 ≤ 8; omega) dJ0_charAt_5068e_12 ⟨Nat.le_refl _, Nat.le_refl _⟩) ?_
  exact W.zret hx hb B.returns hc (fun t ht _ => ⟨rfl, ht⟩) (fun q h => nomatch h) dJ0_charAt_5068e_15 B.notSynchronized
/-- Math.floorMod -/
noncomputable def zjP8 (x y : Int32) : Array Value → State → Prop := fun a _ => a = ([.int x, .int y] : List Value).toArray
theorem zjP8_b {x y : Int32} : FrameBlind (zjP8 x y) := fun _ _ _ _ h => h
theorem zjm8 {x y : Int32} (hy : ¬ y = 0) : zjM l yJ9_floorMod_7cf53 cJ9_floorMod_7cf53 3 (some .int) 0 0 (zjP8 x y) (some (.int (zfm x y))) := by
  refine va_MetF (cc := cJ9_floorMod_7cf53) (maxL := 3) (ret := some .int) (by decide +kernel) rfl ?_
  intro p e s m args below meth c s₁ B hml hP
  have hx := B.exec
  have hb := B.bytes
  obtain rfl : args = ([.int x, .int y] : List Value).toArray := hP
  obtain ⟨ls, he, hl⟩ := zjent [.int x, .int y] (n := 3) (by show 2 ≤ 3; omega) m
  rw [he]
  have l0 : ls[0]? = some (.val (.int x)) := hl.2.2 (0, .int x) List.mem_cons_self
  have l1 : ls[1]? = some (.val (.int y)) := hl.2.2 (1, .int y) (List.mem_cons_of_mem _ List.mem_cons_self)
  refine lv_iload_n hx hb dJ9_floorMod_7cf53_0 rfl l0 ?_
  refine lv_iload_n hx hb dJ9_floorMod_7cf53_1 rfl l1 ?_
  refine lv_irem hx hb dJ9_floorMod_7cf53_2 hy ?_
  refine lv_istore_n hx hb dJ9_floorMod_7cf53_3 rfl hl (by omega) rfl (fun ls' hl' => ?_)
  have k2 : ls'[2]? = some (.val (.int (x - x / y * y))) := hl'.2.2 (2, .int (x - x / y * y)) List.mem_cons_self
  have k0 : ls'[0]? = some (.val (.int x)) := hl'.2.2 (0, .int x) (List.mem_cons_of_mem _ List.mem_cons_self)
  have k1 : ls'[1]? = some (.val (.int y)) := hl'.2.2 (1, .int y) (List.mem_cons_of_mem _ (List.mem_cons_of_mem _ List.mem_cons_self))
  refine lv_iload_n hx hb dJ9_floorMod_7cf53_4 rfl k0 ?_
  refine lv_iload_n hx hb dJ9_floorMod_7cf53_5 rfl k1 ?_
  refine lv_ixor hx hb dJ9_floorMod_7cf53_6 ?_
  refine lv_if_ge hx hb dJ9_floorMod_7cf53_7 (tgt := 18) rfl (fun h => ?_) (fun h => ?_)
  · have e : zfm x y = x - x / y * y := by unfold zfm; rw [if_neg (fun q => absurd h q.1)]
    rw [e]
    refine lv_iload_n hx hb dJ9_floorMod_7cf53_18 rfl k2 ?_
    exact W.iret hx hb B.returns (fun t ht _ => ⟨rfl, ht⟩) (fun q h => nomatch h) dJ9_floorMod_7cf53_19 B.notSynchronized
  · refine lv_iload_n hx hb dJ9_floorMod_7cf53_10 rfl k2 ?_
    refine lv_if_eq hx hb dJ9_floorMod_7cf53_11 (tgt := 18) rfl (fun h2 => ?_) (fun h2 => ?_)
    · have e : zfm x y = x - x / y * y := by unfold zfm; rw [if_neg (fun q => absurd h2 q.2)]
      rw [e]
      refine lv_iload_n hx hb dJ9_floorMod_7cf53_18 rfl k2 ?_
      exact W.iret hx hb B.returns (fun t ht _ => ⟨rfl, ht⟩) (fun q h => nomatch h) dJ9_floorMod_7cf53_19 B.notSynchronized
    · have e : zfm x y = x - x / y * y + y := by unfold zfm; rw [if_pos ⟨h, h2⟩]
      rw [e]
      refine lv_iload_n hx hb dJ9_floorMod_7cf53_14 rfl k2 ?_
      refine lv_iload_n hx hb dJ9_floorMod_7cf53_15 rfl k1 ?_
      refine lv_iadd hx hb dJ9_floorMod_7cf53_16 ?_
      exact W.iret hx hb B.returns (fun t ht _ => ⟨rfl, ht⟩) (fun q h => nomatch h) dJ9_floorMod_7cf53_17 B.notSynchronized
end ZJ
