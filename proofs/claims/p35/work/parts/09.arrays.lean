section ZT
variable {p : Program} {l : Launch} {e : Env} {R : Room} {s : State} {m : MethodId} {args : Array Value} {below : List Frame} {meth : Method} {c : Code} {H : Heap} {locs : List Loc} {cells slots : Nat} {Q : State → Prop} {G : zG} {cc : ByteArray} {ls : Array Slot} {pc : Nat} {σ : Nat → Nat × (Nat → Int32)} {cn : Nat} {st st' : List Value} {pc' : Nat} {M M' : zMem}
theorem zcell_10 {G : zG} {m : Nat → Nat → Int32} {lf : Nat → Nat → Int64} {i n : Nat} {rs : List Nat} : zcell G m lf i (10, n, rs) = .inl (G.2.1 0, n, .inl (m i)) := rfl
theorem zcell_11 {G : zG} {m : Nat → Nat → Int32} {lf : Nat → Nat → Int64} {i n : Nat} {rs : List Nat} : zcell G m lf i (11, n, rs) = .inl (G.2.1 1, n, .inl (m i)) := rfl
theorem zcell_12 {G : zG} {m : Nat → Nat → Int32} {lf : Nat → Nat → Int64} {i n : Nat} {rs : List Nat} : zcell G m lf i (12, n, rs) = .inl (G.2.1 2, n, .inr (.inr (.inr (.inr (fun k => (zrv rs k).map (zad G)))))) := rfl
theorem zcell_13 {G : zG} {m : Nat → Nat → Int32} {lf : Nat → Nat → Int64} {i n : Nat} {rs : List Nat} : zcell G m lf i (13, n, rs) = .inl (G.2.1 3, n, .inr (.inr (.inr (.inr (fun k => (zrv rs k).map (zad G)))))) := rfl
theorem zcell_14 {G : zG} {m : Nat → Nat → Int32} {lf : Nat → Nat → Int64} {i n : Nat} {rs : List Nat} : zcell G m lf i (14, n, rs) = .inl (G.2.1 4, n, .inr (.inl (lf i))) := rfl
theorem zt_b {a b : Bool} (h : (a && !b) = true) : a = true ∧ b = false := by cases a <;> cases b <;> simp_all
theorem zblt {a b : Nat} (h : Nat.blt a b = true) : a < b := by simpa [Nat.blt_eq] using h
theorem zblt_f {a b : Nat} (h : Nat.blt a b = false) : b ≤ a := by
  apply Nat.le_of_not_lt
  intro h2
  rw [Nat.blt_eq.mpr h2] at h
  cases h
theorem zble {a b : Nat} (h : Nat.ble a b = true) : a ≤ b := Nat.le_of_ble_eq_true h
theorem ziald_ok (B : zBd p s m args c cc cn G σ) (hd : decode cc pc = .ok (.iaload, 1)) (hR : zRel G M H) (hS : va_S (zA G) s.heap H locs) (h : ziald σ pc st M = some (pc', st', M'))
    (k : zKt p l e R s m args below meth c Q G ls cells slots M pc' st' M') : W p l e R s m args below meth c H locs cells slots Q (F0 m pc ls (st.map (zcv G))) := by
  obtain ⟨hx, hb, hown, hts, hK, hbs, hE⟩ := B
  unfold ziald at h
  split at h
  · rename_i i a r
    cases ha : Nat.blt a 1000 with
    | true =>
      rw [ha, cond_true] at h
      split at h
      · rename_i kd n rs hM
        cases hc : (kd == 10 && !zoutB i n) with
        | false => rw [hc, cond_false] at h; cases h
        | true =>
          rw [hc, cond_true] at h
          cases h
          obtain ⟨c1, c2⟩ := zt_b hc
          rw [beq_iff_eq] at c1
          subst c1
          have he : (zw G M)[a]? = some (zad G a, .inl (G.2.1 0, n, .inl (M.2.1 a))) := by rw [zw_get hM, zcell_10]
          exact va_iald hx hb hK hR.1 a 0 he rfl (zoutB_f c2) hd (k H locs cells slots rfl rfl hR hS)
      · cases h
    | false =>
      rw [ha, cond_false] at h
      cases hc : (Nat.blt a 1005 && !zoutB i (σ (a - 1000)).1) with
      | false => rw [hc, cond_false] at h; cases h
      | true =>
        rw [hc, cond_true] at h
        cases h
        obtain ⟨c1, c2⟩ := zt_b hc
        have hlt := zblt c1
        have hge := zblt_f ha
        obtain ⟨e1, e2⟩ := hE.2.2.2.2.2.1 (a - 1000) (by omega)
        have hz : zad G a = G.2.2.2 (a - 1000) := by unfold zad; rw [if_neg (by omega)]
        show W p l e R s m args below meth c H locs cells slots Q (F0 m pc ls (.int i :: .ref (zad G a) :: r.map (zcv G)))
        rw [hz]
        exact va_sld hx hb e2 (Nat.lt_of_lt_of_le e1 hbs) (Nat.not_le.mpr e1) hS (zoutB_f c2) hd (k H locs cells slots rfl rfl hR hS)
  · cases h
theorem zbald_ok (B : zBd p s m args c cc cn G σ) (hd : decode cc pc = .ok (.baload, 1)) (hR : zRel G M H) (hS : va_S (zA G) s.heap H locs) (h : zbald pc st M = some (pc', st', M'))
    (k : zKt p l e R s m args below meth c Q G ls cells slots M pc' st' M') : W p l e R s m args below meth c H locs cells slots Q (F0 m pc ls (st.map (zcv G))) := by
  obtain ⟨hx, hb, hown, hts, hK, hbs, hE⟩ := B
  unfold zbald at h
  split at h
  · rename_i i a r
    split at h
    · rename_i kd n rs hM
      cases hc : (kd == 11 && !zoutB i n) with
      | false => rw [hc, cond_false] at h; cases h
      | true =>
        rw [hc, cond_true] at h
        cases h
        obtain ⟨c1, c2⟩ := zt_b hc
        rw [beq_iff_eq] at c1
        subst c1
        have he : (zw G M)[a]? = some (zad G a, .inl (G.2.1 1, n, .inl (M.2.1 a))) := by rw [zw_get hM, zcell_11]
        exact va_bald hx hb hK hR.1 a 1 he rfl (zoutB_f c2) hd (k H locs cells slots rfl rfl hR hS)
    · cases h
  · cases h
theorem zlald_ok (B : zBd p s m args c cc cn G σ) (hd : decode cc pc = .ok (.laload, 1)) (hR : zRel G M H) (hS : va_S (zA G) s.heap H locs) (h : zlald pc st M = some (pc', st', M'))
    (k : zKt p l e R s m args below meth c Q G ls cells slots M pc' st' M') : W p l e R s m args below meth c H locs cells slots Q (F0 m pc ls (st.map (zcv G))) := by
  obtain ⟨hx, hb, hown, hts, hK, hbs, hE⟩ := B
  unfold zlald at h
  split at h
  · rename_i i a r
    split at h
    · rename_i kd n rs hM
      cases hc : (kd == 14 && !zoutB i n) with
      | false => rw [hc, cond_false] at h; cases h
      | true =>
        rw [hc, cond_true] at h
        cases h
        obtain ⟨c1, c2⟩ := zt_b hc
        rw [beq_iff_eq] at c1
        subst c1
        have he : (zw G M)[a]? = some (zad G a, .inl (G.2.1 4, n, .inr (.inl (M.2.2.1 a)))) := by rw [zw_get hM, zcell_14]
        exact va_lald hx hb hK hR.1 a 4 he rfl (zoutB_f c2) hd (k H locs cells slots rfl rfl hR hS)
    · cases h
  · cases h
theorem zaald_ok (B : zBd p s m args c cc cn G σ) (hd : decode cc pc = .ok (.aaload, 1)) (hR : zRel G M H) (hS : va_S (zA G) s.heap H locs) (h : zaald pc st M = some (pc', st', M'))
    (k : zKt p l e R s m args below meth c Q G ls cells slots M pc' st' M') : W p l e R s m args below meth c H locs cells slots Q (F0 m pc ls (st.map (zcv G))) := by
  obtain ⟨hx, hb, hown, hts, hK, hbs, hE⟩ := B
  unfold zaald at h
  split at h
  · rename_i i a r
    split at h
    · rename_i kd n rs hM
      cases hc : ((kd == 12 || kd == 13) && !zoutB i n) with
      | false => rw [hc, cond_false] at h; cases h
      | true =>
        rw [hc, cond_true] at h
        obtain ⟨c1, c2⟩ := zt_b hc
        split at h
        · rename_i b hb2
          cases h
          rw [Bool.or_eq_true, beq_iff_eq, beq_iff_eq] at c1
          rcases c1 with rfl | rfl
          · have he : (zw G M)[a]? = some (zad G a, .inl (G.2.1 2, n, .inr (.inr (.inr (.inr (fun k => (zrv rs k).map (zad G))))))) := by rw [zw_get hM, zcell_12]
            refine va_aldq hx hb hK hR.1 a 2 he rfl (zoutB_f c2) hd ?_
            rw [hb2]
            exact k H locs cells slots rfl rfl hR hS
          · have he : (zw G M)[a]? = some (zad G a, .inl (G.2.1 3, n, .inr (.inr (.inr (.inr (fun k => (zrv rs k).map (zad G))))))) := by rw [zw_get hM, zcell_13]
            refine va_aldq hx hb hK hR.1 a 3 he rfl (zoutB_f c2) hd ?_
            rw [hb2]
            exact k H locs cells slots rfl rfl hR hS
        · cases h
    · cases h
  · cases h
theorem ziast_ok (B : zBd p s m args c cc cn G σ) (hd : decode cc pc = .ok (.iastore, 1)) (hR : zRel G M H) (hS : va_S (zA G) s.heap H locs) (h : ziast pc st M = some (pc', st', M'))
    (k : zKt p l e R s m args below meth c Q G ls cells slots M pc' st' M') : W p l e R s m args below meth c H locs cells slots Q (F0 m pc ls (st.map (zcv G))) := by
  obtain ⟨hx, hb, hown, hts, hK, hbs, hE⟩ := B
  unfold ziast at h
  split at h
  · rename_i x i a r
    split at h
    · rename_i kd n rs hM
      cases hc : (kd == 10 && !zoutB i n) with
      | false => rw [hc, cond_false] at h; cases h
      | true =>
        rw [hc, cond_true] at h
        cases h
        obtain ⟨c1, c2⟩ := zt_b hc
        rw [beq_iff_eq] at c1
        subst c1
        have he : (zw G M)[a]? = some (zad G a, .inl (G.2.1 0, n, .inl (M.2.1 a))) := by rw [zw_get hM, zcell_10]
        refine va_iast hx hb hK hR.1 (zw_D G M hR.2) hS a 0 he rfl (zoutB_f c2) hd (fun H1 locs1 hP1 hD1 hS1 => ?_)
        refine k H1 locs1 cells slots rfl rfl ⟨?_, hR.2⟩ hS1
        have e1 : (zw G M).set a (zad G a, .inl (G.2.1 0, n, .inl (upd (M.2.1 a) i.toNatClampNeg x))) = zw G (M.1, zm2 M.2.1 a i.toNatClampNeg x, M.2.2) := by
          refine zw_set rfl ?_ (fun j hj => zcel_m rfl (zm2_ne hj) rfl)
          rw [zcel_eq (M := (M.1, zm2 M.2.1 a i.toNatClampNeg x, M.2.2)) hM, zcell_10]
          exact congrArg (fun z => (Sum.inl (G.2.1 0, n, .inl z) : va_E)) zm2_eq
        rw [← e1]; exact hP1
    · cases h
  · cases h
theorem zbast_ok (B : zBd p s m args c cc cn G σ) (hd : decode cc pc = .ok (.bastore, 1)) (hR : zRel G M H) (hS : va_S (zA G) s.heap H locs) (h : zbast pc st M = some (pc', st', M'))
    (k : zKt p l e R s m args below meth c Q G ls cells slots M pc' st' M') : W p l e R s m args below meth c H locs cells slots Q (F0 m pc ls (st.map (zcv G))) := by
  obtain ⟨hx, hb, hown, hts, hK, hbs, hE⟩ := B
  unfold zbast at h
  split at h
  · rename_i x i a r
    split at h
    · rename_i kd n rs hM
      cases hc : (kd == 11 && !zoutB i n) with
      | false => rw [hc, cond_false] at h; cases h
      | true =>
        rw [hc, cond_true] at h
        cases h
        obtain ⟨c1, c2⟩ := zt_b hc
        rw [beq_iff_eq] at c1
        subst c1
        have he : (zw G M)[a]? = some (zad G a, .inl (G.2.1 1, n, .inl (M.2.1 a))) := by rw [zw_get hM, zcell_11]
        refine va_bast hx hb hK hR.1 (zw_D G M hR.2) hS a 1 he rfl (zoutB_f c2) hd (fun H1 locs1 hP1 hD1 hS1 => ?_)
        refine k H1 locs1 cells slots rfl rfl ⟨?_, hR.2⟩ hS1
        have e1 : (zw G M).set a (zad G a, .inl (G.2.1 1, n, .inl (upd (M.2.1 a) i.toNatClampNeg (vp_nar .byte x)))) = zw G (M.1, zm2 M.2.1 a i.toNatClampNeg (vp_nar .byte x), M.2.2) := by
          refine zw_set rfl ?_ (fun j hj => zcel_m rfl (zm2_ne hj) rfl)
          rw [zcel_eq (M := (M.1, zm2 M.2.1 a i.toNatClampNeg (vp_nar .byte x), M.2.2)) hM, zcell_11]
          exact congrArg (fun z => (Sum.inl (G.2.1 1, n, .inl z) : va_E)) zm2_eq
        rw [← e1]; exact hP1
    · cases h
  · cases h
theorem zlast_ok (B : zBd p s m args c cc cn G σ) (hd : decode cc pc = .ok (.lastore, 1)) (hR : zRel G M H) (hS : va_S (zA G) s.heap H locs) (h : zlast pc st M = some (pc', st', M'))
    (k : zKt p l e R s m args below meth c Q G ls cells slots M pc' st' M') : W p l e R s m args below meth c H locs cells slots Q (F0 m pc ls (st.map (zcv G))) := by
  obtain ⟨hx, hb, hown, hts, hK, hbs, hE⟩ := B
  unfold zlast at h
  split at h
  · rename_i x i a r
    split at h
    · rename_i kd n rs hM
      cases hc : (kd == 14 && !zoutB i n) with
      | false => rw [hc, cond_false] at h; cases h
      | true =>
        rw [hc, cond_true] at h
        cases h
        obtain ⟨c1, c2⟩ := zt_b hc
        rw [beq_iff_eq] at c1
        subst c1
        have he : (zw G M)[a]? = some (zad G a, .inl (G.2.1 4, n, .inr (.inl (M.2.2.1 a)))) := by rw [zw_get hM, zcell_14]
        refine va_last hx hb hK hR.1 (zw_D G M hR.2) hS a 4 he rfl (zoutB_f c2) hd (fun H1 locs1 hP1 hD1 hS1 => ?_)
        refine k H1 locs1 cells slots rfl rfl ⟨?_, hR.2⟩ hS1
        have e1 : (zw G M).set a (zad G a, .inl (G.2.1 4, n, .inr (.inl (vp_updL (M.2.2.1 a) i.toNatClampNeg x)))) = zw G (M.1, M.2.1, zl2 M.2.2.1 a i.toNatClampNeg x, M.2.2.2) := by
          refine zw_set rfl ?_ (fun j hj => zcel_m rfl rfl (by show zl2 M.2.2.1 a _ x j = _; unfold zl2; rw [if_neg hj]))
          rw [zcel_eq (M := (M.1, M.2.1, zl2 M.2.2.1 a i.toNatClampNeg x, M.2.2.2)) hM, zcell_14]
          show (Sum.inl (G.2.1 4, n, .inr (.inl (zl2 M.2.2.1 a i.toNatClampNeg x a))) : va_E) = _
          unfold zl2; rw [if_pos rfl]
        rw [← e1]; exact hP1
    · cases h
  · cases h
theorem zaast_ok (B : zBd p s m args c cc cn G σ) (hd : decode cc pc = .ok (.aastore, 1)) (hR : zRel G M H) (hS : va_S (zA G) s.heap H locs) (h : zaast pc st M = some (pc', st', M'))
    (k : zKt p l e R s m args below meth c Q G ls cells slots M pc' st' M') : W p l e R s m args below meth c H locs cells slots Q (F0 m pc ls (st.map (zcv G))) := by
  obtain ⟨hx, hb, hown, hts, hK, hbs, hE⟩ := B
  unfold zaast at h
  split at h
  · rename_i v i a r
    split at h
    · rename_i kd n rs kv nv rv hM hV
      cases hc : (((kd == 12 && kv == 1) || (kd == 13 && kv == 6)) && !zoutB i n && decide (i.toNatClampNeg < rs.length)) with
      | false => rw [hc, cond_false] at h; cases h
      | true =>
        rw [hc, cond_true] at h
        cases h
        rw [Bool.and_eq_true] at hc
        obtain ⟨hc, c3⟩ := hc
        have c3 := of_decide_eq_true c3
        obtain ⟨c1, c2⟩ := zt_b hc
        have ha := zget_lt hM
        simp only [Bool.or_eq_true, Bool.and_eq_true, beq_iff_eq] at c1
        have hM' : (M.1.set a (kd, n, rs.set i.toNatClampNeg (v + 1)))[a]? = some (kd, n, rs.set i.toNatClampNeg (v + 1)) := by rw [List.getElem?_set, if_pos rfl, if_pos ha]
        have hup : va_up (fun k => (zrv rs k).map (zad G)) i.toNatClampNeg (some (zad G v)) = (fun k => (zrv (rs.set i.toNatClampNeg (v + 1)) k).map (zad G)) := by
          funext j
          unfold va_up
          by_cases hj : j = i.toNatClampNeg
          · subst hj
            rw [if_pos rfl]
            simp [zrv, c3]
          · rw [if_neg hj]
            unfold zrv
            rw [List.getElem?_set, if_neg (fun e => hj e.symm)]
        have hoth : ∀ j, j ≠ a → zcel G (M.1.set a (kd, n, rs.set i.toNatClampNeg (v + 1)), M.2) j = zcel G M j := fun j hj => zcel_m (by show (M.1.set a _)[j]? = _; rw [List.getElem?_set, if_neg (fun e => hj e.symm)]) rfl rfl
        rcases c1 with ⟨rfl, rfl⟩ | ⟨rfl, rfl⟩
        · have he : (zw G M)[a]? = some (zad G a, .inl (G.2.1 2, n, .inr (.inr (.inr (.inr (fun k => (zrv rs k).map (zad G))))))) := by rw [zw_get hM, zcell_12]
          have hv : (zw G M)[v]? = some (zad G v, .inr (1, (List.range (zN 1)).map (zfv G M.2.1 v 1 rv))) := by rw [zw_get hV, zcel_obj (by decide)]
          refine va_astq hx hb hK hR.1 (zw_D G M hR.2) hS a 2 v 1 (r := (RX1, TX1, 4)) he rfl hv rfl (zoutB_f c2) hd (fun H1 locs1 hP1 hD1 hS1 => ?_)
          refine k H1 locs1 cells slots rfl rfl ⟨?_, by rw [List.length_set]; exact hR.2⟩ hS1
          rw [hup] at hP1
          rw [zw_set (M' := (M.1.set a (12, n, rs.set i.toNatClampNeg (v + 1)), M.2)) (by simp) (by rw [zcel_eq hM', zcell_12]) hoth] at hP1
          exact hP1
        · have he : (zw G M)[a]? = some (zad G a, .inl (G.2.1 3, n, .inr (.inr (.inr (.inr (fun k => (zrv rs k).map (zad G))))))) := by rw [zw_get hM, zcell_13]
          have hv : (zw G M)[v]? = some (zad G v, .inr (6, (List.range (zN 6)).map (zfv G M.2.1 v 6 rv))) := by rw [zw_get hV, zcel_obj (by decide)]
          refine va_astq hx hb hK hR.1 (zw_D G M hR.2) hS a 3 v 6 (r := (RX6, TX6, 10)) he rfl hv rfl (zoutB_f c2) hd (fun H1 locs1 hP1 hD1 hS1 => ?_)
          refine k H1 locs1 cells slots rfl rfl ⟨?_, by rw [List.length_set]; exact hR.2⟩ hS1
          rw [hup] at hP1
          rw [zw_set (M' := (M.1.set a (13, n, rs.set i.toNatClampNeg (v + 1)), M.2)) (by simp) (by rw [zcel_eq hM', zcell_13]) hoth] at hP1
          exact hP1
    · cases h
  · cases h
theorem zalen_ok (B : zBd p s m args c cc cn G σ) (hd : decode cc pc = .ok (.arraylength, 1)) (hR : zRel G M H) (hS : va_S (zA G) s.heap H locs) (h : zalen σ pc st M = some (pc', st', M'))
    (k : zKt p l e R s m args below meth c Q G ls cells slots M pc' st' M') : W p l e R s m args below meth c H locs cells slots Q (F0 m pc ls (st.map (zcv G))) := by
  obtain ⟨hx, hb, hown, hts, hK, hbs, hE⟩ := B
  unfold zalen at h
  split at h
  · rename_i a r
    cases ha : Nat.blt a 1000 with
    | true =>
      rw [ha, cond_true] at h
      split at h
      · rename_i kd n rs hM
        cases hc : (kd == 10 || kd == 11) with
        | false => rw [hc, cond_false] at h; cases h
        | true =>
          rw [hc, cond_true] at h
          cases h
          rw [Bool.or_eq_true, beq_iff_eq, beq_iff_eq] at hc
          rcases hc with rfl | rfl
          · have he : (zw G M)[a]? = some (zad G a, .inl (G.2.1 0, n, .inl (M.2.1 a))) := by rw [zw_get hM, zcell_10]
            exact va_alen hx hb hK hR.1 a 0 he rfl rfl hd (k H locs cells slots rfl rfl hR hS)
          · have he : (zw G M)[a]? = some (zad G a, .inl (G.2.1 1, n, .inl (M.2.1 a))) := by rw [zw_get hM, zcell_11]
            exact va_alen hx hb hK hR.1 a 1 he rfl rfl hd (k H locs cells slots rfl rfl hR hS)
      · cases h
    | false =>
      rw [ha, cond_false] at h
      cases hc : Nat.blt a 1005 with
      | false => rw [hc, cond_false] at h; cases h
      | true =>
        rw [hc, cond_true] at h
        cases h
        have hlt := zblt hc
        have hge := zblt_f ha
        obtain ⟨e1, e2⟩ := hE.2.2.2.2.2.1 (a - 1000) (by omega)
        have hz : zad G a = G.2.2.2 (a - 1000) := by unfold zad; rw [if_neg (by omega)]
        show W p l e R s m args below meth c H locs cells slots Q (F0 m pc ls (.ref (zad G a) :: r.map (zcv G)))
        rw [hz]
        exact va_slen hx hb e2 (Nat.lt_of_lt_of_le e1 hbs) (Nat.not_le.mpr e1) hS hd (k H locs cells slots rfl rfl hR hS)
  · cases h
end ZT
