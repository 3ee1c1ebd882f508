section ZS
variable {p : Program} {l : Launch} {e : Env} {R : Room} {s : State} {m : MethodId} {args : Array Value} {below : List Frame} {meth : Method} {c : Code} {H : Heap} {locs : List Loc} {cells slots : Nat} {Q : State → Prop} {G : zG} {cc : ByteArray} {ls : Array Slot} {pc : Nat} {σ : Nat → Nat × (Nat → Int32)} {cn : Nat} {st st' : List Value} {pc' : Nat} {M M' : zMem}
/-- what stands at every instruction of a body -/
noncomputable def zBd (p : Program) (s : State) (m : MethodId) (args : Array Value) (c : Code) (cc : ByteArray) (cn : Nat) (G : zG) (σ : Nat → Nat × (Nat → Int32)) : Prop :=
  p.tables.exec = Jvm.exec ∧ c.code = cc ∧ s.vm.findClass (zcn cn) = some m.cls ∧ (∀ w ∈ zWs, w.before args s = true) ∧ va_K G.1 vwCl (ztys G) s ∧ G.2.2.1 ≤ s.heap.size ∧ zEnv G σ s
noncomputable abbrev zKt (p : Program) (l : Launch) (e : Env) (R : Room) (s : State) (m : MethodId) (args : Array Value) (below : List Frame) (meth : Method) (c : Code) (Q : State → Prop) (G : zG) (ls : Array Slot) (cells slots : Nat) (M : zMem) (pc' : Nat) (st' : List Value) (M' : zMem) : Prop :=
  ∀ (H' : Heap) (locs' : List Loc) (cells' slots' : Nat), cells' + M.2.2.2.2.1 = cells + M'.2.2.2.2.1 → slots' + M.2.2.2.2.2 = slots + M'.2.2.2.2.2 → zRel G M' H' → va_S (zA G) s.heap H' locs' → W p l e R s m args below meth c H' locs' cells' slots' Q (F0 m pc' ls (st'.map (zcv G)))
theorem zad_lt {G : zG} {i : Nat} (h : i < 1000) : zad G i = G.2.2.1 + i := by unfold zad; rw [if_pos h]
theorem zrel_lt {i : Nat} (hR : zRel G M H) (h : i < M.1.length) : i < 1000 := by
  have := hR.2
  omega
theorem zget_lt {q : Nat × Nat × List Nat} {i : Nat} (h : M.1[i]? = some q) : i < M.1.length := (List.getElem?_eq_some_iff.mp h).1
theorem zgetf_ok (B : zBd p s m args c cc cn G σ) {idx : Nat} (hd : decode cc pc = .ok (.getfield idx, 3)) (hR : zRel G M H) (hS : va_S (zA G) s.heap H locs) (h : zgetf cn idx pc st M = some (pc', st', M'))
    (k : zKt p l e R s m args below meth c Q G ls cells slots M pc' st' M') : W p l e R s m args below meth c H locs cells slots Q (F0 m pc ls (st.map (zcv G))) := by
  obtain ⟨hx, hb, hown, hts, hK, hbs, hE⟩ := B
  unfold zgetf at h
  split at h
  · rename_i ci kf pl hl
    split at h
    · rename_i a r
      split at h
      · rename_i kd n rs hM
        by_cases hc : kd = ci
        · subst hc
          rw [beq_self_eq_true, cond_true] at h
          obtain ⟨q, hq, hk, hlk⟩ := zfp_ok hl
          have hci := zcl_lt hq
          obtain ⟨a1, a2, a3, a4, a5, a6⟩ := zcl_all hq
          obtain ⟨b1, -⟩ := a6 kf hk
          have he : (zw G M)[a]? = some (zad G a, .inr (kd, (List.range (zN kd)).map (zfv G M.2.1 a kd rs))) := by rw [zw_get hM, zcel_obj hci]
          have hv := zfs_get (G := G) (m := M.2.1) (i := a) (kd := kd) (rs := rs) (k := kf) (by rw [a5]; exact hk)
          split at h
          · rename_i fl hf
            split at h
            · rename_i b hb2
              cases h
              refine va_get hx hb hts (zcl_in hq) hown hK hR.1 a he hq kf hk (hts _ hlk) (fun x hx => hx) (v := .ref (zad G b)) ?_ hd (k H locs cells slots rfl rfl hR hS)
              rw [hv]
              simp [zfv, hf, hb2, va_rf]
            · cases h
          · rename_i t hne hf
            cases h
            refine va_get hx hb hts (zcl_in hq) hown hK hR.1 a he hq kf hk (hts _ hlk) (fun x hx => hx) (v := .int (M.2.1 a kf)) ?_ hd (k H locs cells slots rfl rfl hR hS)
            rw [hv]
            unfold zfv
            rw [hf]
            split
            · rename_i z hz
              cases hz
              exact absurd rfl (hne _)
            · rfl
          · cases h
        · rw [show (kd == ci) = false by simp [hc], cond_false] at h
          cases h
      · cases h
    · cases h
  · cases h
theorem zbool_ok {x : Int32} (h : x = 0 ∨ x = 1) : narrow .boolean (.int x) = .int x ∧ fits .boolean (.int x) = true := by
  rcases h with rfl | rfl <;> exact ⟨by decide, by decide⟩
theorem zm2_ne {m : Nat → Nat → Int32} {a k i : Nat} {x : Int32} (h : i ≠ a) : zm2 m a k x i = m i := by unfold zm2; rw [if_neg h]
theorem zm2_eq {m : Nat → Nat → Int32} {a k : Nat} {x : Int32} : zm2 m a k x a = upd (m a) k x := by unfold zm2; rw [if_pos rfl]
theorem ztyk_0 {ty : FieldType} (h : ztyk 0 ty = true) : ty = .int := by cases ty <;> first | rfl | (simp [ztyk] at h)
theorem ztyk_1 {ty : FieldType} (h : ztyk 1 ty = true) : ty = .boolean := by cases ty <;> first | rfl | (simp [ztyk] at h)
theorem ztyk_2 {ty : FieldType} (h : ztyk 2 ty = true) (a : Nat) : narrow ty (.ref a) = .ref a ∧ fits ty (.ref a) = true := by cases ty <;> first | exact ⟨rfl, rfl⟩ | (simp [ztyk] at h)
theorem zputI_ok (B : zBd p s m args c cc cn G σ) {idx ci kf pl a n : Nat} {rs : List Nat} {x : Int32} {r : List Value} (hd : decode cc pc = .ok (.putfield idx, 3)) (hR : zRel G M H) (hS : va_S (zA G) s.heap H locs) (hl : (zfp cn).lookup idx = some (ci, kf, pl)) (hM : M.1[a]? = some (ci, n, rs)) {t : Nat} (hf : (zft ci)[kf]? = some (t, false)) (hx0 : t = 0 ∨ (t = 1 ∧ (x = 0 ∨ x = 1)))
    (k : zKt p l e R s m args below meth c Q G ls cells slots M (pc + 3) r (M.1, zm2 M.2.1 a kf x, M.2.2)) : W p l e R s m args below meth c H locs cells slots Q (F0 m pc ls ((.int x :: .ref a :: r : List Value).map (zcv G))) := by
  obtain ⟨hx, hb, hown, hts, hK, hbs, hE⟩ := B
  obtain ⟨q, hq, hk, hlk⟩ := zfp_ok hl
  have hci := zcl_lt hq
  obtain ⟨a1, a2, a3, a4, a5, a6⟩ := zcl_all hq
  obtain ⟨b1, t', f', b2, b3, b4⟩ := a6 kf hk
  rw [hf] at b2
  cases b2
  have he : (zw G M)[a]? = some (zad G a, .inr (ci, (List.range (zN ci)).map (zfv G M.2.1 a ci rs))) := by rw [zw_get hM, zcel_obj hci]
  have hty := zcl_ty hq kf hk
  have hnf : narrow (zty ci kf) (.int x) = .int x ∧ fits (zty ci kf) (.int x) = true := by
    rcases hx0 with rfl | ⟨rfl, hx1⟩
    · rw [ztyk_0 b4]; exact ⟨rfl, rfl⟩
    · rw [ztyk_1 b4]; exact zbool_ok hx1
  have ht2 : t ≠ 2 := by rcases hx0 with h | h <;> omega
  refine va_put hx hb hts (zcl_in hq) (zty ci) (zcl_ty hq) (zcl_nm hq) hown hK hR.1 (zw_D G M hR.2) hS a he hq kf hk (hts _ hlk) (fun x hx => hx) b3 hty hnf.1 hnf.2 (by simp [a5, hk]) hd (fun H1 locs1 hP1 hD1 hS1 => ?_)
  refine k H1 locs1 cells slots rfl rfl ⟨?_, hR.2⟩ hS1
  have e1 : (zw G M).set a (zad G a, .inr (ci, ((List.range (zN ci)).map (zfv G M.2.1 a ci rs)).set kf (.int x))) = zw G (M.1, zm2 M.2.1 a kf x, M.2.2) := by
    refine zw_set rfl ?_ (fun j hj => ?_)
    · rw [zcel_eq (M := (M.1, zm2 M.2.1 a kf x, M.2.2)) hM, zcel_obj hci]
      refine congrArg (fun z => (Sum.inr (ci, z) : va_E)) (zfs_set ?_ (fun j hj => ?_)).symm
      · unfold zfv
        rw [hf]
        split
        · rename_i z hz; cases hz; exact absurd rfl ht2
        · show Value.int (zm2 M.2.1 a kf x a kf) = _
          rw [zm2_eq]; simp [upd]
      · unfold zfv
        split
        · rfl
        · show Value.int (zm2 M.2.1 a kf x a j) = _
          rw [zm2_eq]; simp [upd, hj]
    · exact zcel_m rfl (zm2_ne hj) rfl
  rw [← e1]; exact hP1
theorem zputR_ok (B : zBd p s m args c cc cn G σ) (hin : meth.name = "<init>") {idx kf pl a n b : Nat} {rs : List Nat} {r : List Value} (hd : decode cc pc = .ok (.putfield idx, 3)) (hR : zRel G M H) (hS : va_S (zA G) s.heap H locs) (hl : (zfp cn).lookup idx = some (cn, kf, pl)) (hM : M.1[a]? = some (cn, n, rs)) (hrs : kf < rs.length) (hf : (zft cn)[kf]? = some (2, true))
    (k : zKt p l e R s m args below meth c Q G ls cells slots M (pc + 3) r (M.1.set a (cn, n, rs.set kf (b + 1)), M.2)) : W p l e R s m args below meth c H locs cells slots Q (F0 m pc ls ((.ref b :: .ref a :: r : List Value).map (zcv G))) := by
  obtain ⟨hx, hb, hown, hts, hK, hbs, hE⟩ := B
  obtain ⟨q, hq, hk, hlk⟩ := zfp_ok hl
  have hci := zcl_lt hq
  obtain ⟨a1, a2, a3, a4, a5, a6⟩ := zcl_all hq
  obtain ⟨b1, t', f', b2, b3, b4⟩ := a6 kf hk
  rw [hf] at b2
  cases b2
  have he : (zw G M)[a]? = some (zad G a, .inr (cn, (List.range (zN cn)).map (zfv G M.2.1 a cn rs))) := by rw [zw_get hM, zcel_obj hci]
  have hty := zcl_ty hq kf hk
  have hnf := ztyk_2 b4 (zad G b)
  have ha := zget_lt hM
  refine va_putF hx hb hts (zcl_in hq) (zty cn) (zcl_ty hq) (zcl_nm hq) hown hK hR.1 (zw_D G M hR.2) hS a he hq kf hk (hts _ hlk) (fun x hx => hx) b3 hin (b1.trans a1) hty hnf.1 hnf.2 (by simp [a5, hk]) hd (fun H1 locs1 hP1 hD1 hS1 => ?_)
  refine k H1 locs1 cells slots rfl rfl ⟨?_, by rw [List.length_set]; exact hR.2⟩ hS1
  have hM' : (M.1.set a (cn, n, rs.set kf (b + 1)))[a]? = some (cn, n, rs.set kf (b + 1)) := by rw [List.getElem?_set, if_pos rfl, if_pos ha]
  have e1 : (zw G M).set a (zad G a, .inr (cn, ((List.range (zN cn)).map (zfv G M.2.1 a cn rs)).set kf (.ref (zad G b)))) = zw G (M.1.set a (cn, n, rs.set kf (b + 1)), M.2) := by
    refine zw_set (by simp) ?_ (fun j hj => ?_)
    · rw [zcel_eq (M := (M.1.set a (cn, n, rs.set kf (b + 1)), M.2)) hM', zcel_obj hci]
      refine congrArg (fun z => (Sum.inr (cn, z) : va_E)) (zfs_set ?_ (fun j hj => ?_)).symm
      · unfold zfv
        rw [hf]
        simp [zrv, hrs, va_rf]
      · unfold zfv
        split
        · have : zrv (rs.set kf (b + 1)) j = zrv rs j := by unfold zrv; rw [List.getElem?_set, if_neg (fun e => hj e.symm)]
          rw [this]
        · rfl
    · exact zcel_m (by show (M.1.set a _)[j]? = _; rw [List.getElem?_set, if_neg (fun e => hj e.symm)]) rfl rfl
  rw [← e1]; exact hP1
theorem zputf_ok (B : zBd p s m args c cc cn G σ) {ini : Bool} (hin : ini = true → meth.name = "<init>") {idx : Nat} (hd : decode cc pc = .ok (.putfield idx, 3)) (hR : zRel G M H) (hS : va_S (zA G) s.heap H locs) (h : zputf cn ini idx pc st M = some (pc', st', M'))
    (k : zKt p l e R s m args below meth c Q G ls cells slots M pc' st' M') : W p l e R s m args below meth c H locs cells slots Q (F0 m pc ls (st.map (zcv G))) := by
  unfold zputf at h
  split at h
  · rename_i ci kf pl hl
    split at h
    · rename_i x a r
      split at h
      · rename_i kd n rs hM
        by_cases hc : kd = ci
        · subst hc
          rw [beq_self_eq_true, cond_true] at h
          split at h
          · rename_i hf
            cases h
            exact zputI_ok B hd hR hS hl hM hf (Or.inl rfl) k
          · rename_i hf
            split at h
            · rename_i h01
              cases h
              exact zputI_ok B hd hR hS hl hM hf (Or.inr ⟨rfl, h01⟩) k
            · cases h
          · cases h
        · rw [show (kd == ci) = false by simp [hc], cond_false] at h
          cases h
      · cases h
    · rename_i b a r
      split at h
      · rename_i kd n rs hM
        by_cases hc : (kd == ci && ini && ci == cn && decide (kf < rs.length)) = true
        · rw [hc, cond_true] at h
          simp only [Bool.and_eq_true, beq_iff_eq, decide_eq_true_eq] at hc
          obtain ⟨⟨⟨c1, c2⟩, c3⟩, c4⟩ := hc
          subst c1
          subst c3
          split at h
          · rename_i hf
            cases h
            exact zputR_ok B (hin c2) hd hR hS hl hM c4 hf k
          · cases h
        · rw [Bool.eq_false_iff.mpr hc, cond_false] at h
          cases h
      · cases h
    · cases h
  · cases h
end ZS
