section ZU
variable {p : Program} {l : Launch} {e : Env} {R : Room} {s : State} {m : MethodId} {args : Array Value} {below : List Frame} {meth : Method} {c : Code} {H : Heap} {locs : List Loc} {cells slots : Nat} {Q : State → Prop} {G : zG} {cc : ByteArray} {ls : Array Slot} {pc : Nat} {σ : Nat → Nat × (Nat → Int32)} {cn : Nat} {st st' : List Value} {pc' : Nat} {M M' : zMem}
theorem znfw : nativeFrameWords "java/lang/System" "arraycopy" 5 ≤ 60 := by decide +kernel
set_option maxHeartbeats 4000000 in
theorem zacp_ok (B : zBd p s m args c cc cn G σ) (hls : ls.size = c.maxLocals) (hRf : 6 ≤ R.frames) (hRl : 150 ≤ R.locals) {idx : Nat} (hd : decode cc pc = .ok (.invokestatic idx, 3)) (hR : zRel G M H) (hS : va_S (zA G) s.heap H locs) (h : zacp cn idx pc st M = some (pc', st', M'))
    (k : zKt p l e R s m args below meth c Q G ls cells slots M pc' st' M') : W p l e R s m args below meth c H locs cells slots Q (F0 m pc ls (st.map (zcv G))) := by
  obtain ⟨hx, hb, hown, hts, hK, hbs, hE⟩ := B
  unfold zacp at h
  split at h
  · rename_i j pl hl
    split at h
    · rename_i n dp a1 sp a0 r
      split at h
      · rename_i k0 n0 r0 k1 n1 r1 hM0 hM1
        cases hc : (k0 == 10 && k1 == 10 && decide (¬ sp < 0) && decide (¬ dp < 0) && decide (¬ n < 0) && Nat.ble (sp.toNatClampNeg + n.toNatClampNeg) n0 && Nat.ble (dp.toNatClampNeg + n.toNatClampNeg) n1 && Nat.ble ((r.map fun v => v.category).sum) 8) with
        | false => rw [hc, cond_false] at h; cases h
        | true =>
          rw [hc, cond_true] at h
          cases h
          simp only [Bool.and_eq_true, beq_iff_eq] at hc
          obtain ⟨⟨⟨⟨⟨⟨⟨rfl, rfl⟩, c3⟩, c4⟩, c5⟩, c6⟩, c7⟩, c8⟩ := hc
          have hle := zble c8
          have he0 : (zw G M)[a0]? = some (zad G a0, .inl (G.2.1 0, n0, .inl (M.2.1 a0))) := by rw [zw_get hM0, zcell_10]
          have he1 : (zw G M)[a1]? = some (zad G a1, .inl (G.2.1 0, n1, .inl (M.2.1 a1))) := by rw [zw_get hM1, zcell_10]
          refine va_copyi hx hb hls.symm hown (hts _ (zmp_5 hl)) (hts _ zac_n) (hts _ zac_s) (hts _ zac_i) hK hR.1 (zw_D G M hR.2) hS a0 a1 0 0 he0 he1 (ty := .int) rfl rfl rfl (of_decide_eq_true c3) (of_decide_eq_true c4) (of_decide_eq_true c5) (zble c6) (zble c7) (fun _ _ => rfl) (Nat.le_trans (by decide) hRf) ?_ hd (fun H1 locs1 hP1 hD1 hS1 => ?_)
          · rw [zcat_map]
            exact zl6 hle znfw hRl
          · refine k H1 locs1 cells slots rfl rfl ⟨?_, hR.2⟩ hS1
            generalize va_cpy (M.2.1 a0) (M.2.1 a1) sp.toNatClampNeg dp.toNatClampNeg n.toNatClampNeg = f at hP1
            have e1 : (zw G M).set a1 (zad G a1, .inl (G.2.1 0, n1, .inl f)) = zw G (M.1, (fun i => if i = a1 then f else M.2.1 i), M.2.2) := by
              refine zw_set rfl ?_ (fun j hj => zcel_m rfl (by show (if j = a1 then _ else M.2.1 j) = _; rw [if_neg hj]) rfl)
              rw [zcel_eq (M := (M.1, (fun i => if i = a1 then f else M.2.1 i), M.2.2)) hM1, zcell_10]
              show (Sum.inl (G.2.1 0, n1, .inl (if a1 = a1 then f else M.2.1 a1)) : va_E) = _
              rw [if_pos rfl]
            rw [← e1]; exact hP1
      · cases h
    · cases h
  · cases h
end ZU
