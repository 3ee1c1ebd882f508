section ZW
variable {p : Program} {l : Launch} {e : Env} {R : Room} {s : State} {m : MethodId} {args : Array Value} {below : List Frame} {meth : Method} {c : Code} {H : Heap} {locs : List Loc} {cells slots : Nat} {Q : State → Prop} {G : zG} {cc : ByteArray} {ls : Array Slot} {pc : Nat} {σ : Nat → Nat × (Nat → Int32)} {cn : Nat} {st st' : List Value} {pc' : Nat} {M M' : zMem}
theorem zS_ok (B : zBd p s m args c cc cn G σ) {ini : Bool} (hin : ini = true → meth.name = "<init>") (hls : ls.size = c.maxLocals) (hRf : 6 ≤ R.frames) (hRl : 150 ≤ R.locals) {i : Instr} {len : Nat} (hd : decode cc pc = .ok (i, len)) (hlen : zsw i = true ∨ zlen i = len) (hR : zRel G M H) (hS : va_S (zA G) s.heap H locs) (hX : M.2.2.2.1 = true → s.heap.size + cells ≤ G.2.2.1 + M.1.length) (h : zS σ cn ini i pc st M = some (pc', st', M')) (hrc : cells + M'.2.2.2.2.1 ≤ R.cells + M.2.2.2.2.1) (hrs : slots + M'.2.2.2.2.2 ≤ R.slots + M.2.2.2.2.2)
    (k : zKt p l e R s m args below meth c Q G ls cells slots M pc' st' M') : W p l e R s m args below meth c H locs cells slots Q (F0 m pc ls (st.map (zcv G))) := by
  cases i
  case getfield idx => obtain rfl := zlk hlen rfl; exact zgetf_ok B hd hR hS h k
  case putfield idx => obtain rfl := zlk hlen rfl; exact zputf_ok B hin hd hR hS h k
  case iaload => obtain rfl := zlk hlen rfl; exact ziald_ok B hd hR hS h k
  case baload => obtain rfl := zlk hlen rfl; exact zbald_ok B hd hR hS h k
  case laload => obtain rfl := zlk hlen rfl; exact zlald_ok B hd hR hS h k
  case aaload => obtain rfl := zlk hlen rfl; exact zaald_ok B hd hR hS h k
  case iastore => obtain rfl := zlk hlen rfl; exact ziast_ok B hd hR hS h k
  case bastore => obtain rfl := zlk hlen rfl; exact zbast_ok B hd hR hS h k
  case lastore => obtain rfl := zlk hlen rfl; exact zlast_ok B hd hR hS h k
  case aastore => obtain rfl := zlk hlen rfl; exact zaast_ok B hd hR hS h k
  case arraylength => obtain rfl := zlk hlen rfl; exact zalen_ok B hd hR hS h k
  case new idx => obtain rfl := zlk hlen rfl; exact znew_ok B hd hR hS hX h hrc hrs k
  case newarray t => obtain rfl := zlk hlen rfl; exact znewa_ok B hd hR hS hX h hrc hrs k
  case anewarray idx => obtain rfl := zlk hlen rfl; exact zanew_ok B hd hR hS hX h hrc hrs k
  case getstatic idx => obtain rfl := zlk hlen rfl; exact zgets_ok B hd hR hS h k
  case invokespecial idx => obtain rfl := zlk hlen rfl; exact zoin_ok B hls hRf hRl hd hR hS h k
  case invokestatic idx => obtain rfl := zlk hlen rfl; exact zacp_ok B hls hRf hRl hd hR hS h k
  case ldc idx => obtain rfl := zlk hlen rfl; exact zld2_ok B hd hR hS h k
  case ldc_w idx => obtain rfl := zlk hlen rfl; exact zld3_ok B hd hR hS h k
  all_goals cases h
theorem zmx_c : Cond.code Lib.Math.max.name Lib.Math.max.code 2 (some .int) ∈ zWs := List.mem_filter.mpr ⟨List.mem_of_getElem? (i := 573) (by decide +kernel), rfl⟩
theorem zmn_c : Cond.code Lib.Math.min.name Lib.Math.min.code 2 (some .int) ∈ zWs := List.mem_filter.mpr ⟨List.mem_of_getElem? (i := 780) (by decide +kernel), rfl⟩
theorem zma_i : Cond.initialized "java/lang/Math" ∈ zWs := List.mem_filter.mpr ⟨List.mem_of_getElem? (i := 118) (by decide +kernel), rfl⟩
theorem zl7 {a r : Nat} (h : a ≤ 8) (hr : 150 ≤ r) : a + 13 ≤ r := by omega
theorem zl8 {f r : Nat} (h : 6 ≤ r) (h2 : f + 1 ≤ 6) : f + 1 ≤ r := by omega
theorem zl9 {a r : Nat} (h : 150 ≤ r) (h2 : a ≤ 150) : a ≤ r := by omega
theorem zl10 {a : Nat} (h : a ≤ 8) : 2 * 0 + a ≤ 8 := by omega
theorem zmp_6 {c idx j pl : Nat} (h : (zmp c).lookup idx = some (6, j, pl)) : Cond.methodLink (zcn c) idx yJ0_length_8abf5 ∈ zWs := by
  have hm := zlk_of (β := Unit) h
  have hc : c < 13 := by
    apply Nat.lt_of_not_le
    intro hc
    rw [zmp_ge hc] at hm
    cases hm
  have h2 := List.all_eq_true.mp zpck_ok c (List.mem_range.mpr hc)
  unfold zpck at h2
  simp only [Bool.and_eq_true] at h2
  have h3 := List.all_eq_true.mp h2.2 _ hm
  exact List.mem_filter.mpr ⟨List.mem_of_getElem? (of_decide_eq_true h3), rfl⟩
theorem zmp_7 {c idx j pl : Nat} (h : (zmp c).lookup idx = some (7, j, pl)) : Cond.methodLink (zcn c) idx yJ0_charAt_5068e ∈ zWs := by
  have hm := zlk_of (β := Unit) h
  have hc : c < 13 := by
    apply Nat.lt_of_not_le
    intro hc
    rw [zmp_ge hc] at hm
    cases hm
  have h2 := List.all_eq_true.mp zpck_ok c (List.mem_range.mpr hc)
  unfold zpck at h2
  simp only [Bool.and_eq_true] at h2
  have h3 := List.all_eq_true.mp h2.2 _ hm
  exact List.mem_filter.mpr ⟨List.mem_of_getElem? (of_decide_eq_true h3), rfl⟩
noncomputable def zlitk : Bool := zlit.all (fun q => Nat.blt q.2.2.2.2.length 1000 && q.2.2.2.2.all (fun b => decide (zjch b = b) && decide (narrow .char (.int b) = .int b)))
theorem zlitk_ok : zlitk = true := by decide +kernel
theorem zlit_ch {n : Nat} {q : Nat × Nat × String × Nat × List Int32} {i : Int32} (hq : zlit[n]? = some q) (hi : vp_in i q.2.2.2.2.length) : q.2.2.2.2.length < 2 ^ 31 ∧ zjch (q.2.2.2.2.getD i.toNatClampNeg 0) = q.2.2.2.2.getD i.toNatClampNeg 0 ∧ narrow .char (.int (q.2.2.2.2.getD i.toNatClampNeg 0)) = .int (q.2.2.2.2.getD i.toNatClampNeg 0) := by
  have h := List.all_eq_true.mp zlitk_ok q (List.mem_of_getElem? hq)
  rw [Bool.and_eq_true] at h
  have h1 := zblt h.1
  have hlt : i.toNatClampNeg < q.2.2.2.2.length := Nat.not_le.mp (fun z => hi (Or.inr z))
  have h2 := List.all_eq_true.mp h.2 (q.2.2.2.2.getD i.toNatClampNeg 0) (by
    rw [List.getD_eq_getElem?_getD, List.getElem?_eq_getElem hlt]
    exact List.getElem_mem hlt)
  rw [Bool.and_eq_true] at h2
  exact ⟨by omega, of_decide_eq_true h2.1, of_decide_eq_true h2.2⟩
theorem zSt_recv {a : Nat} {bs : List Int32} (h : zSt a bs (zA G) s s.heap) (hS : va_S (zA G) s.heap H locs) : ∃ cell : Cell, H[a]? = some cell ∧ cell.vm.isStatics = false ∧ s.vm.findClass RJ0 = some cell.cls := by
  obtain ⟨cell, h1, h2, h3, -⟩ := h.1.kept hS.2.1
  exact ⟨cell, h1, h2, h3⟩
theorem zSt_go {a : Nat} {bs : List Int32} {U : State} (h : zSt a bs (zA G) s s.heap) (hS : va_S (zA G) s.heap H locs) (hU : U.heap = H) (hW : s.WarmedH U.vm) : zSt a bs (zA G) U U.heap := by
  rw [hU]
  exact zSt.moved hW.alike (h.kept hS.2.1)
theorem zjC_go {U : State} (h : zjC (zA G) s) (hS : va_S (zA G) s.heap H locs) (hU : U.heap = H) (hW : s.WarmedH U.vm) : zjC (zA G) U := by
  unfold zjC
  rw [hU]
  exact va_Z.moved hW.alike (va_Z.kept h hS.2.1)
theorem zjF_go {U : State} (h : zjF (zA G) s) (hS : va_S (zA G) s.heap H locs) (hU : U.heap = H) (hW : s.WarmedH U.vm) : zjF (zA G) U := by
  unfold zjF
  rw [hU]
  exact va_Zq.moved hW.alike (va_Zq.kept h hS.2.1)
theorem zmath_ok (B : zBd p s m args c cc cn G σ) (hls : ls.size = c.maxLocals) (hS : va_S (zA G) s.heap H locs) (hRf : 6 ≤ R.frames) (hRl : 150 ≤ R.locals) (hc : cells ≤ R.cells) (hs : slots ≤ R.slots) {i : Instr} {len : Nat} (hd : decode cc pc = .ok (i, len)) (hlen : zsw i = true ∨ zlen i = len) (h : zmath cn i pc st = some (pc', st')) (k : W p l e R s m args below meth c H locs cells slots Q (F0 m pc' ls (st'.map (zcv G)))) : W p l e R s m args below meth c H locs cells slots Q (F0 m pc ls (st.map (zcv G))) := by
  obtain ⟨hx, hb, hown, hts, hK, hbs, hE⟩ := B
  unfold zmath at h
  cases i
  case invokestatic idx =>
    obtain rfl := zlk hlen rfl
    dsimp only at h
    split at h
    · rename_i pl hl
      obtain ⟨q, hq, w1, w2, -⟩ := zk1_ok hl
      cases hq
      split at h
      · rename_i y x r
        rw [cond_eq_ite] at h
        split at h
        · rename_i hs9
          cases h
          exact va_mmax hx hb hls.symm hown (hts _ w1) (hts _ w2) (hts _ zma_i) (hts _ zmx_c) (Nat.le_trans (by decide) hRf) (by rw [zsum_map]; exact zl7 (zble hs9) hRl) hc hs hd k
        · cases h
      · cases h
    · rename_i pl hl
      obtain ⟨q, hq, w1, w2, -⟩ := zk1_ok hl
      cases hq
      split at h
      · rename_i y x r
        rw [cond_eq_ite] at h
        split at h
        · rename_i hs9
          cases h
          exact va_mmin hx hb hls.symm hown (hts _ w1) (hts _ w2) (hts _ zma_i) (hts _ zmn_c) (Nat.le_trans (by decide) hRf) (by rw [zsum_map]; exact zl7 (zble hs9) hRl) hc hs hd k
        · cases h
      · cases h
    · rename_i pl hl
      obtain ⟨q, hq, w1, w2, -⟩ := zk1_ok hl
      cases hq
      split at h
      · rename_i y x r
        rw [cond_eq_ite] at h
        split at h
        · rename_i hs9
          cases h
          rw [Bool.and_eq_true] at hs9
          have hy : ¬ y = 0 := of_decide_eq_true hs9.2
          exact zjgo (va_runS (As := [.int x, .int y]) (rest := r.map (zcv G)) ⟨hx, hb, hls.symm, hown, hts⟩ (zjm8 hy) ⟨zjB (np := 2) hts zjc8 zma_i w1 ⟨by decide, by decide⟩ (by decide +kernel) (zl8 hRf (by decide)) (zl9 hRl (by decide)), hts _ w2⟩ ⟨zjP8_b, fun U _ _ => rfl⟩ rfl rfl rfl rfl (by show 2 * 0 + _ ≤ 8; rw [zcat_map]; exact zl10 (zble hs9.1)) hd ⟨hc, hs⟩) k
        · cases h
      · cases h
    · cases h
  case invokevirtual idx =>
    obtain rfl := zlk hlen rfl
    dsimp only at h
    split at h
    · rename_i j pl hl
      have w1 := zmp_6 hl
      split at h
      · rename_i a r
        rw [cond_eq_ite] at h
        split at h
        · rename_i hs9
          rw [Bool.and_eq_true] at hs9
          split at h
          · rename_i q hq
            cases h
            obtain ⟨n, rfl⟩ := Nat.exists_eq_add_of_le (zble hs9.1)
            rw [Nat.add_sub_cancel_left] at hq
            have hT := hE.2.2.2.2.2.2.2.2
            have hst := (hT.2.2 n q hq).2
            have hrv := zSt_recv hst hS
            show W p l e R s m args below meth c H locs cells slots Q (F0 m pc ls (.ref (zad G (1100 + n)) :: r.map (zcv G)))
            rw [zad_s]
            exact zjgo (va_runV (C := RJ0) (b := G.2.2.2 (100 + n)) (As := []) (rest := r.map (zcv G)) ⟨hx, hb, hls.symm, hown, hts⟩ (zjm6 (A := zA G)) ⟨zjB (np := 0) hts zjc6 zji0 w1 ⟨by decide, by decide⟩ (by decide +kernel) (zl8 hRf (by decide)) (zl9 hRl (by decide)), hts _ zjn6, hts _ zje6⟩ ⟨zjP6_b, hrv, fun U hU hW => ⟨rfl, zSt_go hst hS hU hW, zjC_go hT.1 hS hU hW, zjF_go hT.2.1 hS hU hW⟩⟩ rfl rfl rfl rfl (by show 2 * 0 + _ ≤ 8; rw [zcat_map]; exact zl10 (zble hs9.2)) hd ⟨hc, hs⟩) k
          · cases h
        · cases h
      · cases h
    · rename_i j pl hl
      have w1 := zmp_7 hl
      split at h
      · rename_i i a r
        rw [cond_eq_ite] at h
        split at h
        · rename_i hs9
          rw [Bool.and_eq_true] at hs9
          split at h
          · rename_i q hq
            rw [cond_eq_ite] at h
            split at h
            · rename_i hio
              cases h
              obtain ⟨n, rfl⟩ := Nat.exists_eq_add_of_le (zble hs9.1)
              rw [Nat.add_sub_cancel_left] at hq
              have hio2 : vp_in i q.2.2.2.2.length := zoutB_f (by rwa [Bool.not_eq_true'] at hio)
              obtain ⟨b1, b2, b3⟩ := zlit_ch hq hio2
              have hT := hE.2.2.2.2.2.2.2.2
              have hst := (hT.2.2 n q hq).2
              have hrv := zSt_recv hst hS
              show W p l e R s m args below meth c H locs cells slots Q (F0 m pc ls (.int i :: .ref (zad G (1100 + n)) :: r.map (zcv G)))
              rw [zad_s]
              exact zjgo (va_runV (C := RJ0) (b := G.2.2.2 (100 + n)) (As := [.int i]) (rest := r.map (zcv G)) ⟨hx, hb, hls.symm, hown, hts⟩ (zjm7 (A := zA G) b1 hio2 b2 b3) ⟨zjB (np := 1) hts zjc7 zji0 w1 ⟨by decide, by decide⟩ (by decide +kernel) (zl8 hRf (by decide)) (zl9 hRl (by decide)), hts _ zjn7, hts _ zje7⟩ ⟨zjP6_b, hrv, fun U hU hW => ⟨rfl, zSt_go hst hS hU hW, zjC_go hT.1 hS hU hW, zjF_go hT.2.1 hS hU hW⟩⟩ rfl rfl rfl rfl (by show 2 * 0 + _ ≤ 8; rw [zcat_map]; exact zl10 (zble hs9.2)) hd ⟨hc, hs⟩) k
            · cases h
          · cases h
        · cases h
      · cases h
    · cases h
  all_goals cases h
end ZW
