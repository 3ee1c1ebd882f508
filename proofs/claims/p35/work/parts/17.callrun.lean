section ZV
variable {p : Program} {l : Launch} {e : Env} {R : Room} {s : State} {m : MethodId} {args : Array Value} {below : List Frame} {meth : Method} {c : Code} {H : Heap} {locs : List Loc} {cells slots : Nat} {G : zG} {cc : ByteArray} {ls : Array Slot} {pc : Nat} {σ : Nat → Nat × (Nat → Int32)} {cn : Nat} {st : List Value} {M : zMem}
noncomputable def zDs : List Cond := [.declares ⟨"java/lang/RuntimeException", "<init>", "(Ljava/lang/String;)V"⟩, .declares ⟨"java/lang/Exception", "<init>", "(Ljava/lang/String;)V"⟩, .declares ⟨"java/lang/Throwable", "<init>", "(Ljava/lang/String;)V"⟩]
noncomputable def zDk (w : Cond) : Bool := match w with
  | .declares _ => true
  | _ => false
theorem zDs_warm {s U : State} (hW : s.WarmedH U.vm) (h : ∀ w ∈ zDs, va_Nw w s) : ∀ w ∈ zDs, va_Nw w U := by
  intro w hw
  have h1 := h w hw
  have h2 : zDk w = true := List.all_eq_true.mp (show zDs.all zDk = true by decide +kernel) w hw
  cases w
  case declares a => exact va_Nw.warmD hW h1
  all_goals cases h2
noncomputable def zNC (U : State) : Prop := (∀ a b, a < 5 → b < 5 → a ≠ b → va_Nc (zex a) (zex b) U) ∧ ∀ w ∈ zDs, va_Nw w U
noncomputable def zPc (G : zG) (σ : Nat → Nat × (Nat → Int32)) (as : List Value) (M : zMem) : Array Value → State → Prop := fun a U => a = (as.map (zcv G)).toArray ∧ zRel G M U.heap ∧ va_K G.1 vwCl (ztys G) U ∧ zEnv G σ U ∧ zNC U ∧ G.2.2.1 ≤ U.heap.size ∧ (M.2.2.2.1 = true → U.heap.size ≤ G.2.2.1 + M.1.length)
noncomputable def zrm (d kc ks : Nat) : Room := { frames := d + 8, cells := kc, slots := ks, locals := 40 * d + 200 }
noncomputable def zQc (G : zG) (o : zO) (M' : zMem) : Array Value → State → Outcome → State → Prop := fun _ st oc t => match o with
  | .inl v => oc = .returned (v.map (zcv G)) ∧ zRel G M' t.heap ∧ va_F (zA G) st t
  | .inr _ => False
noncomputable def zXc (G : zG) (o : zO) (M' : zMem) : String → State → State → Prop := fun E st t => match o with
  | .inl _ => False
  | .inr e => E = zex e ∧ zRel G M' t.heap ∧ va_F (zA G) st t
theorem zPc_blind {as : List Value} : FrameBlind (zPc G σ as M) := by
  intro a U g mk h
  obtain ⟨h1, h2, h3, h4, h5, h6, h7⟩ := h
  exact ⟨h1, h2, va_K.moved (u := U) (U := U.calling g mk a) (Vm.Alike.refl U.vm) h3, zEnv.go (s := U) (U := U.calling g mk a) h4 (State.WarmedH.refl U) h6 (fun q _ _ => rfl), ⟨fun x y hx hy hxy => va_Nc.moved (u := U) (U := U.calling g mk a) (Vm.Alike.refl U.vm) (h5.1 x y hx hy hxy), zDs_warm (s := U) (U := U.calling g mk a) (State.WarmedH.refl U) h5.2⟩, h6, h7⟩
theorem zPc_at {as : List Value} (B : zBd p s m args c cc cn G σ) (hNC : zNC s) (hR : zRel G M H) (hS : va_S (zA G) s.heap H locs) (hX : M.2.2.2.1 = true → H.size ≤ G.2.2.1 + M.1.length) : ∀ U : State, U.heap = H → s.WarmedH U.vm → zPc G σ as M (as.map (zcv G)).toArray U := by
  intro U hU hW
  obtain ⟨hx, hb, hown, hts, hK, hbs, hE⟩ := B
  refine ⟨rfl, by rw [hU]; exact hR, va_K.moved hW.alike hK, zEnv.go hE hW hbs (fun q h1 h2 => by rw [hU]; exact hS.2.1 q h1 h2), ⟨fun x y hx hy hxy => va_Nc.moved hW.alike (hNC.1 x y hx hy hxy), zDs_warm hW hNC.2⟩, ?_, ?_⟩
  · rw [hU]; exact Nat.le_trans hbs hS.1
  · rw [hU]; exact hX
theorem zws_warm (hts : ∀ w ∈ zWs, w.before args s = true) {w : Cond} (hw : w ∈ zWs) (a' : Array Value) (U : State) (hW : s.WarmedH U.vm) : w.before a' U = true := word_at hW (good_of_word (List.mem_filter.mp hw).2) (hts w hw)
theorem zsp_ok {j n : Nat} {j' : Nat} {as rest : List Value} (h : zsp j n st = some (j', as, rest)) : j' = j ∧ st = as.reverse ++ rest ∧ as.length = n ∧ zsum rest ≤ 8 ∧ ∀ v ∈ as, v.category = 1 := by
  unfold zsp at h
  rw [cond_eq_ite] at h
  split at h
  · rename_i hc
    cases h
    simp only [Bool.and_eq_true] at hc
    obtain ⟨⟨c1, c2⟩, c3⟩ := hc
    refine ⟨rfl, by rw [List.reverse_reverse, List.take_append_drop], ?_, zble c2, fun v hv => ?_⟩
    · have := zble c1
      simp; omega
    · have := List.all_eq_true.mp c3 v (List.mem_reverse.mp hv)
      exact beq_iff_eq.mp this
  · cases h
theorem zsum_map (r : List Value) : ((r.map (zcv G)).map fun v => v.category).sum = zsum r := by
  unfold zsum
  rw [List.map_map]
  congr 2
  funext v
  exact zcv_cat G v
theorem zrml {d maxL r : Nat} (h : maxL ≤ 20) (h2 : 40 * d + 240 ≤ r) : 8 + (maxL + 11) + (40 * d + 200) ≤ r := by omega
theorem zpar {y : MethodName} {n : Nat} (h : (parseMethodDescriptor y.desc).map (fun d => d.parameters.length) = some n) : ∀ sig, parseMethodDescriptor y.desc = some sig → n = sig.parameters.length := by
  intro sig hs
  rw [hs] at h
  exact (Option.some.inj h).symm
theorem zcallB {d kc ks j idx : Nat} {q : zMt} (hts : ∀ w ∈ zWs, w.before args s = true) (hq : zent j = some q) (hj : j ≠ 2024) (hj2 : j < 2400) (hh : q.2.2.2.2.1 = []) (hlk : Cond.methodLink (zcn cn) idx q.1 ∈ zWs) (hRf : d + 9 ≤ R.frames) (hRl : 40 * d + 240 ≤ R.locals) :
    CallB R s args (zcn cn) idx q.1 q.2.1 q.2.2.1 q.2.2.2.1 (zcw q :: zWs) (zrm d kc ks) kc ks (zna j) := by
  obtain ⟨a1, a2, a3, a4, a5, a6, a7, -⟩ := zmt_all hq hj hj2
  have hc : zcw q = Cond.code q.1 q.2.1 q.2.2.1 q.2.2.2.1 := by unfold zcw; rw [if_pos hh]
  refine ⟨rfl, rfl, hRf, zrml a7 hRl, fun w hw a' U hW => ?_, by rw [hc]; exact List.mem_cons_self, by rw [← hc]; exact hts _ a4, hts _ a5, a3, zpar a6, hts _ hlk⟩
  rcases List.mem_cons.mp hw with rfl | hw
  · exact zws_warm hts a4 a' U hW
  · exact zws_warm hts hw a' U hW
theorem zcallSX {d kc ks j idx : Nat} {q : zMt} (hts : ∀ w ∈ zWs, w.before args s = true) (hq : zent j = some q) (hj : j ≠ 2024) (hj2 : j < 2400) (hh : ¬ q.2.2.2.2.1 = []) (hlk : Cond.methodLink (zcn cn) idx q.1 ∈ zWs) (hst : Cond.static q.1 ∈ zWs) (hRf : d + 9 ≤ R.frames) (hRl : 40 * d + 240 ≤ R.locals) :
    vx_CSW R s args (zcn cn) idx q.1 q.2.1 q.2.2.1 q.2.2.2.1 q.2.2.2.2.1 (zcw q :: zWs) (zrm d kc ks) kc ks (zna j) := by
  obtain ⟨a1, a2, a3, a4, a5, a6, a7, -⟩ := zmt_all hq hj hj2
  have hc : zcw q = Cond.codeWith q.1 q.2.1 q.2.2.1 q.2.2.2.1 q.2.2.2.2.1 := by unfold zcw; rw [if_neg hh]
  refine ⟨⟨rfl, rfl, hRf, zrml a7 hRl, fun w hw a' U hW => ?_, by rw [hc]; exact List.mem_cons_self⟩, by rw [← hc]; exact hts _ a4, hts _ a5, a3, zpar a6, hts _ hlk, hts _ hst⟩
  rcases List.mem_cons.mp hw with rfl | hw
  · exact zws_warm hts a4 a' U hW
  · exact zws_warm hts hw a' U hW
theorem zcallN {d kc ks j idx : Nat} {q : zMt} (hts : ∀ w ∈ zWs, w.before args s = true) (hq : zent j = some q) (hj : j ≠ 2024) (hj2 : j < 2400) (hh : q.2.2.2.2.1 = []) (hlk : va_Nw (Cond.methodLinkNest (zcn cn) idx q.1 "ElidedLocks") s) (hRf : d + 9 ≤ R.frames) (hRl : 40 * d + 240 ≤ R.locals) :
    va_CN R s args (zcn cn) idx q.1 "ElidedLocks" q.2.1 q.2.2.1 q.2.2.2.1 (zcw q :: zWs) (zrm d kc ks) kc ks (zna j) := by
  obtain ⟨a1, a2, a3, a4, a5, a6, a7, -⟩ := zmt_all hq hj hj2
  have hc : zcw q = Cond.code q.1 q.2.1 q.2.2.1 q.2.2.2.1 := by unfold zcw; rw [if_pos hh]
  refine ⟨⟨rfl, rfl, hRf, zrml a7 hRl, fun w hw a' U hW => ?_, by rw [hc]; exact List.mem_cons_self⟩, by rw [← hc]; exact hts _ a4, hts _ a5, a3, zpar a6, va_Nw.use rfl hlk⟩
  rcases List.mem_cons.mp hw with rfl | hw
  · exact zws_warm hts a4 a' U hW
  · exact zws_warm hts hw a' U hW
theorem zcall_run (B : zBd p s m args c cc cn G σ) (hml : ls.size = c.maxLocals) {i : Instr} {len : Nat} (hd : decode cc pc = .ok (i, len)) (hlen : zsw i = true ∨ zlen i = len) {j' : Nat} {as rest : List Value} (hcall : zcall cn i st M = some (j', as, rest)) (hR : zRel G M H) (hpre : ∀ U : State, U.heap = H → s.WarmedH U.vm → zPc G σ as M (as.map (zcv G)).toArray U) {d kc ks : Nat} (hRf : d + 9 ≤ R.frames) (hRl : 40 * d + 240 ≤ R.locals) (hf : cells + kc ≤ R.cells ∧ slots + ks ≤ R.slots)
    {Qc : Array Value → State → Outcome → State → Prop} {XC : String → State → State → Prop} (hM : ∀ q, zent j' = some q → j' ≠ 2024 → j' < 2400 → (∀ v ∈ as, v.category = 1) → vx_Met l q.1 (zcw q :: zWs) (zrm d kc ks) (zPc G σ as M) Qc XC kc ks (zA G)) :
    vx_Run p l e R s m args below meth c H locs cells slots kc ks (F0 m pc ls (st.map (zcv G))) (rest.map (zcv G)) (Qc (as.map (zcv G)).toArray) XC (zA G) := by
  obtain ⟨hx, hb, hown, hts, hK, hbs, hE⟩ := B
  unfold zcall at hcall
  cases i
  case invokevirtual idx =>
    obtain rfl := zlk hlen rfl
    dsimp only at hcall
    split at hcall
    · rename_i j pl hl
      split at hcall
      · rename_i j2 b as2 r2 hsp
        obtain ⟨rfl, hst, hlen2, hsum, hcat⟩ := zsp_ok hsp
        split at hcall
        · rename_i kd n rs hMb
          rw [cond_eq_ite] at hcall
          split at hcall
          · rename_i hkd
            cases hcall
            obtain ⟨q, hq, w1, w2, w3, hh, hj⟩ := zk0_ok hl
            have hj1 : j' ≠ 2024 := by omega
            have hj2 : j' < 2400 := by omega
            obtain ⟨a1, -⟩ := zmt_all hq hj1 hj2
            have hkd := beq_iff_eq.mp hkd
            subst hkd
            have hci : j' / 200 < 10 := by omega
            obtain ⟨qc, hqc⟩ : ∃ qc, vwCl[j' / 200]? = some qc := ⟨_, List.getElem?_eq_getElem (by exact hci)⟩
            have hcn := (zcl_all hqc).1
            have he : (zw G M)[b]? = some (zad G b, .inr (j' / 200, (List.range (zN (j' / 200))).map (zfv G M.2.1 b (j' / 200) rs))) := by rw [zw_get hMb, zcel_obj hci]
            have hrv := va_recv hK hR.1 hqc he
            rw [hcn, ← a1] at hrv
            have hcw := zcallB (R := R) (kc := kc) (ks := ks) hts hq hj1 hj2 hh w1 hRf hRl
            exact vx_runV (C := q.1.cls) (b := zad G b) (As := as2.map (zcv G)) ⟨hx, hb, rfl, hown, hts⟩ (hM q hq hj1 hj2 hcat) ⟨hcw, hts _ w2, hts _ w3⟩ ⟨zPc_blind, hrv, hpre⟩ rfl (by simp at hlen2 ⊢; omega) hml (by rw [hst]; simp [zcv]) (by rw [zsum_map]; show 2 * 0 + _ ≤ 8; omega) hd hf
          · cases hcall
        · cases hcall
      · cases hcall
    · cases hcall
  case invokestatic idx =>
    obtain rfl := zlk hlen rfl
    dsimp only at hcall
    split at hcall
    · rename_i j pl hl
      rw [cond_eq_ite] at hcall
      split at hcall
      · rename_i hj2
        have hj2 := zblt hj2
        obtain ⟨rfl, hst, hlen2, hsum, hcat⟩ := zsp_ok hcall
        obtain ⟨q, hq, w1, w2, hj1⟩ := zk1_ok hl
        by_cases hh : q.2.2.2.2.1 = []
        · have hcw := zcallB (R := R) (kc := kc) (ks := ks) hts hq hj1 hj2 hh w1 hRf hRl
          exact vx_runS (As := as.map (zcv G)) ⟨hx, hb, rfl, hown, hts⟩ (hM q hq hj1 hj2 hcat) ⟨hcw, hts _ w2⟩ ⟨zPc_blind, hpre⟩ rfl (by simp [hlen2]) hml (by rw [hst]; simp) (by rw [zsum_map]; show 2 * 0 + _ ≤ 8; omega) hd hf
        · have hcw := zcallSX (R := R) (kc := kc) (ks := ks) hts hq hj1 hj2 hh w1 w2 hRf hRl
          exact vx_runSX (As := as.map (zcv G)) ⟨hx, hb, rfl, hown, hts⟩ (hM q hq hj1 hj2 hcat) hcw ⟨zPc_blind, hpre⟩ rfl (by simp [hlen2]) hml (by rw [hst]; simp) (by rw [zsum_map]; show 2 * 0 + _ ≤ 8; omega) hd hf
      · cases hcall
    · cases hcall
  case invokespecial idx =>
    obtain rfl := zlk hlen rfl
    dsimp only at hcall
    split at hcall
    · rename_i j pl hl
      split at hcall
      · rename_i j2 b as2 r2 hsp
        obtain ⟨rfl, hst, hlen2, hsum, hcat⟩ := zsp_ok hsp
        cases hcall
        obtain ⟨q, hq, w1, w2, hi, hh, hrn, hj⟩ := zk2_ok hl
        have hj1 : j' ≠ 2024 := by omega
        have hj2 : j' < 2400 := by omega
        have hnm := (zmt_all hq hj1 hj2).2.2.2.2.2.2.2 hi
        have hcw := zcallB (R := R) (kc := kc) (ks := ks) hts hq hj1 hj2 hh w1 hRf hRl
        rw [hrn] at hcw
        exact vx_runI (b := zad G b) (As := as2.map (zcv G)) ⟨hx, hb, rfl, hown, hts⟩ (hM q hq hj1 hj2 hcat) ⟨hcw, hnm, hts _ w2⟩ ⟨zPc_blind, hpre⟩ rfl (by simp at hlen2 ⊢; omega) hml (by rw [hst]; simp [zcv]) (by rw [zsum_map]; show 2 * 0 + _ ≤ 8; omega) hd hf
      · cases hcall
    · rename_i j pl hl
      split at hcall
      · rename_i j2 b as2 r2 hsp
        obtain ⟨rfl, hst, hlen2, hsum, hcat⟩ := zsp_ok hsp
        cases hcall
        obtain ⟨q, hq, w1, w2, hi, hh, hrn, hj⟩ := zk3_ok hl
        have hj1 : j' ≠ 2024 := by omega
        have hj2 : j' < 2400 := by omega
        have hnm := (zmt_all hq hj1 hj2).2.2.2.2.2.2.2 hi
        have hcw := zcallN (R := R) (kc := kc) (ks := ks) (cn := cn) (idx := idx) hts hq hj1 hj2 hh (hE.2.2.2.1 _ w1) hRf hRl
        rw [hrn] at hcw
        exact vx_runIN (b := zad G b) (As := as2.map (zcv G)) ⟨hx, hb, rfl, hown, hts⟩ (hM q hq hj1 hj2 hcat) ⟨hcw, hnm, hts _ w2⟩ ⟨zPc_blind, hpre⟩ rfl (by simp at hlen2 ⊢; omega) hml (by rw [hst]; simp [zcv]) (by rw [zsum_map]; show 2 * 0 + _ ≤ 8; omega) hd hf
      · cases hcall
    · cases hcall
  all_goals cases hcall
end ZV
