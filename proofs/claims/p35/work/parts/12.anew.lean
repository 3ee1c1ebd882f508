section ZU
variable {p : Program} {l : Launch} {e : Env} {R : Room} {s : State} {m : MethodId} {args : Array Value} {below : List Frame} {meth : Method} {c : Code} {H : Heap} {locs : List Loc} {cells slots : Nat} {Q : State → Prop} {G : zG} {cc : ByteArray} {ls : Array Slot} {pc : Nat} {σ : Nat → Nat × (Nat → Int32)} {cn : Nat} {st st' : List Value} {pc' : Nat} {M M' : zMem}
set_option maxHeartbeats 4000000 in
theorem zanew_ok (B : zBd p s m args c cc cn G σ) {idx : Nat} (hd : decode cc pc = .ok (.anewarray idx, 3)) (hR : zRel G M H) (hS : va_S (zA G) s.heap H locs) (hX : M.2.2.2.1 = true → s.heap.size + cells ≤ G.2.2.1 + M.1.length) (h : zanew cn idx pc st M = some (pc', st', M')) (hrc : cells + M'.2.2.2.2.1 ≤ R.cells + M.2.2.2.2.1) (hrs : slots + M'.2.2.2.2.2 ≤ R.slots + M.2.2.2.2.2)
    (k : zKt p l e R s m args below meth c Q G ls cells slots M pc' st' M') : W p l e R s m args below meth c H locs cells slots Q (F0 m pc ls (st.map (zcv G))) := by
  obtain ⟨hx, hb, hown, hts, hK, hbs, hE⟩ := B
  unfold zanew at h
  split at h
  · rename_i n r
    split at h
    · rename_i ci pl hl
      cases hc : (M.2.2.2.1 && Nat.blt M.1.length 999 && decide (¬ n < 0) && Nat.ble n.toNatClampNeg 10000) with
      | false => rw [hc, cond_false] at h; cases h
      | true =>
        rw [hc, cond_true] at h
        obtain ⟨N, hN⟩ : ∃ N, N = n.toNatClampNeg := ⟨_, rfl⟩
        rw [← hN] at h hc
        simp only [Bool.and_eq_true] at hc
        obtain ⟨⟨⟨c1, c2⟩, c3⟩, c4⟩ := hc
        have hlt := zblt c2
        have hn := of_decide_eq_true c3
        have hle := zble c4
        obtain ⟨q, hq, hlk⟩ := zcp_ok hl
        split at h
        · cases h
          cases hq
          have hrc' : cells + 1 ≤ R.cells := zrc (n := M.2.2.2.2.1) hrc
          have hrs' : slots + N ≤ R.slots := zrc (n := M.2.2.2.2.2) hrs
          exact zanew1 (C := RX1) (kd := 12) (t := 2) (ci := 0) (pl := 0) hN.symm hx hb hown hK hbs (hts _ hlk) hE.2.2.2.2.2.2.1 rfl (fun i => zcell_12) hd hR hS (hX c1) hlt hn hle hrc' hrs' k
        · cases h
          cases hq
          have hrc' : cells + 1 ≤ R.cells := zrc (n := M.2.2.2.2.1) hrc
          have hrs' : slots + N ≤ R.slots := zrc (n := M.2.2.2.2.2) hrs
          exact zanew1 (C := RX6) (kd := 13) (t := 3) (ci := 0) (pl := 0) hN.symm hx hb hown hK hbs (hts _ hlk) hE.2.2.2.2.2.2.2.1 rfl (fun i => zcell_13) hd hR hS (hX c1) hlt hn hle hrc' hrs' k
        · cases h
    · cases h
  · cases h
noncomputable def zgck (c : Nat) : Bool := (zgp c).all (fun e => Nat.ble 1 e.2.1 && Nat.ble e.2.1 4 && (match e.2.2.2 with
  | 0 => decide (lw_tbl[e.2.2.1]? = some (.fieldLink (zcn c) e.1 "ElidedLocks" (zsn (e.2.1 - 1)) "[I"))
  | _ => decide (Cond.fieldLinkNest (zcn c) e.1 "ElidedLocks" (zsn (e.2.1 - 1)) "[I" "ElidedLocks" ∈ zNs)))
theorem zgck_ok : (List.range 13).all zgck = true := by decide +kernel
theorem zgp_ge {c : Nat} (h : 13 ≤ c) : zgp c = [] := by unfold zgp; split <;> first | rfl | omega
theorem zgets_ok (B : zBd p s m args c cc cn G σ) {idx : Nat} (hd : decode cc pc = .ok (.getstatic idx, 3)) (hR : zRel G M H) (hS : va_S (zA G) s.heap H locs) (h : zgets cn idx pc st M = some (pc', st', M'))
    (k : zKt p l e R s m args below meth c Q G ls cells slots M pc' st' M') : W p l e R s m args below meth c H locs cells slots Q (F0 m pc ls (st.map (zcv G))) := by
  obtain ⟨hx, hb, hown, hts, hK, hbs, hE⟩ := B
  unfold zgets at h
  split at h
  · rename_i sid pl nest hl
    cases h
    have hm := zlk_of (β := Unit) hl
    have hc : cn < 13 := by
      apply Nat.lt_of_not_le
      intro hc
      rw [zgp_ge hc] at hm
      cases hm
    have h2 := List.all_eq_true.mp (List.all_eq_true.mp zgck_ok cn (List.mem_range.mpr hc)) _ hm
    simp only [Bool.and_eq_true] at h2
    obtain ⟨⟨g1, g2⟩, g3⟩ := h2
    have g1 := zble g1
    have g2 := zble g2
    have hZ := hE.2.2.2.2.1 (sid - 1) (by omega)
    have hsid : 1 + (sid - 1) = sid := by omega
    rw [hsid] at hZ
    have hk := k H locs cells slots rfl rfl hR hS
    have e9 : (List.map (zcv G) (.ref (1000 + sid) :: st)) = .ref (G.2.2.2 sid) :: st.map (zcv G) := by
      show (.ref (zad G (1000 + sid)) :: st.map (zcv G) : List Value) = _
      unfold zad
      rw [if_neg (by omega), show 1000 + sid - 1000 = sid by omega]
    rw [e9] at hk
    match nest, g3 with
    | 0, g3 => exact va_gets hx hb hZ hS hown (hts _ (List.mem_filter.mpr ⟨List.mem_of_getElem? (of_decide_eq_true g3), rfl⟩)) (fun x hx => hx) hd hk
    | z + 1, g3 =>
      have hw : Cond.fieldLinkNest (zcn cn) idx "ElidedLocks" (zsn (sid - 1)) "[I" "ElidedLocks" ∈ zNs := of_decide_eq_true g3
      exact va_getsN hx hb hZ hS hown (va_Nw.use rfl (hE.2.2.2.1 _ hw)) (fun x hx => hx) hd hk
  · cases h
theorem zldW (hexec : p.tables.exec = Jvm.exec) (hb : c.code = cc) {own tx : String} {index q : Nat} {rest : List Value} (hown : s.vm.findClass own = some m.cls) (hZ : vk_R own index tx q s) (hdg : decode cc pc = .ok (.ldc_w index, 3))
    (k : W p l e R s m args below meth c H locs cells slots Q (F0 m (pc + 3) ls (.ref q :: rest))) : W p l e R s m args below meth c H locs cells slots Q (F0 m pc ls rest) := by
  intro T hT X
  obtain ⟨t, a1, b1⟩ := k T hT X
  exact ⟨t, X.ldcStringW hexec hown (text := tx) (a := q) hZ.1 hZ.2 (g := F0 m pc ls rest) rfl (by rw [hb]; exact hdg) t a1, b1⟩
noncomputable def zlck (c : Nat) : Bool := (zlx c).all (fun e => match zlit[e.2]? with
  | some q => decide (q.1 = c) && decide (q.2.1 = e.1)
  | none => false)
theorem zlck_ok : (List.range 13).all zlck = true := by decide +kernel
theorem zlx_ge {c : Nat} (h : 13 ≤ c) : zlx c = [] := by unfold zlx; split <;> first | rfl | omega
theorem zlx_ok {c idx n : Nat} (h : (zlx c).lookup idx = some n) : ∃ q, zlit[n]? = some q ∧ q.1 = c ∧ q.2.1 = idx := by
  have hm := zlk_of (β := Unit) h
  have hc : c < 13 := by
    apply Nat.lt_of_not_le
    intro hc
    rw [zlx_ge hc] at hm
    cases hm
  have h2 := List.all_eq_true.mp (List.all_eq_true.mp zlck_ok c (List.mem_range.mpr hc)) _ hm
  cases hq : zlit[n]? with
  | none => simp [hq] at h2
  | some q =>
    simp only [hq, Bool.and_eq_true, decide_eq_true_eq] at h2
    exact ⟨q, rfl, h2.1, h2.2⟩
theorem zad_s {G : zG} (k : Nat) : zad G (1100 + k) = G.2.2.2 (100 + k) := by
  unfold zad
  rw [if_neg (by omega), show 1100 + k - 1000 = 100 + k by omega]
theorem zld2_ok (B : zBd p s m args c cc cn G σ) {idx : Nat} (hd : decode cc pc = .ok (.ldc idx, 2)) (hR : zRel G M H) (hS : va_S (zA G) s.heap H locs) (h : zldS cn idx 2 pc st M = some (pc', st', M'))
    (k : zKt p l e R s m args below meth c Q G ls cells slots M pc' st' M') : W p l e R s m args below meth c H locs cells slots Q (F0 m pc ls (st.map (zcv G))) := by
  obtain ⟨hx, hb, hown, hts, hK, hbs, hE⟩ := B
  unfold zldS at h
  split at h
  · rename_i n hl
    cases h
    obtain ⟨q, hq, rfl, rfl⟩ := zlx_ok hl
    have hk := k H locs cells slots rfl rfl hR hS
    have e9 : (List.map (zcv G) (.ref (1100 + n) :: st)) = .ref (G.2.2.2 (100 + n)) :: st.map (zcv G) := by
      show (.ref (zad G (1100 + n)) :: st.map (zcv G) : List Value) = _
      rw [zad_s]
    rw [e9] at hk
    exact va_ldcS hx hb hown (hE.2.2.2.2.2.2.2.2.2.2 n q hq).1 hd hk
  · cases h
theorem zld3_ok (B : zBd p s m args c cc cn G σ) {idx : Nat} (hd : decode cc pc = .ok (.ldc_w idx, 3)) (hR : zRel G M H) (hS : va_S (zA G) s.heap H locs) (h : zldS cn idx 3 pc st M = some (pc', st', M'))
    (k : zKt p l e R s m args below meth c Q G ls cells slots M pc' st' M') : W p l e R s m args below meth c H locs cells slots Q (F0 m pc ls (st.map (zcv G))) := by
  obtain ⟨hx, hb, hown, hts, hK, hbs, hE⟩ := B
  unfold zldS at h
  split at h
  · rename_i n hl
    cases h
    obtain ⟨q, hq, rfl, rfl⟩ := zlx_ok hl
    have hk := k H locs cells slots rfl rfl hR hS
    have e9 : (List.map (zcv G) (.ref (1100 + n) :: st)) = .ref (G.2.2.2 (100 + n)) :: st.map (zcv G) := by
      show (.ref (zad G (1100 + n)) :: st.map (zcv G) : List Value) = _
      rw [zad_s]
    rw [e9] at hk
    exact zldW hx hb hown (hE.2.2.2.2.2.2.2.2.2.2 n q hq).1 hd hk
  · cases h
theorem zcat_map (r : List Value) : ((r.map (zcv G)).map fun v => v.category).sum = (r.map fun v => v.category).sum := by
  rw [List.map_map]
  congr 2
  funext v
  exact zcv_cat G v
theorem zl5 {a r : Nat} (h : a ≤ 8) (hr : 150 ≤ r) : 2 * 0 + a + 12 ≤ r := by omega
theorem zl6 {a b r : Nat} (h : a ≤ 8) (h2 : b ≤ 60) (hr : 150 ≤ r) : a + (b + 11) ≤ r := by omega
theorem zoin_ok (B : zBd p s m args c cc cn G σ) (hls : ls.size = c.maxLocals) (hRf : 6 ≤ R.frames) (hRl : 150 ≤ R.locals) {idx : Nat} (hd : decode cc pc = .ok (.invokespecial idx, 3)) (hR : zRel G M H) (hS : va_S (zA G) s.heap H locs) (h : zoin cn idx pc st M = some (pc', st', M'))
    (k : zKt p l e R s m args below meth c Q G ls cells slots M pc' st' M') : W p l e R s m args below meth c H locs cells slots Q (F0 m pc ls (st.map (zcv G))) := by
  obtain ⟨hx, hb, hown, hts, hK, hbs, hE⟩ := B
  unfold zoin at h
  split at h
  · rename_i j pl hl
    rcases st with _ | ⟨v, r⟩
    · cases h
    cases v
    case ref a =>
      dsimp only at h
      cases hc : Nat.ble ((r.map fun v => v.category).sum) 8 with
      | false => rw [hc, cond_false] at h; cases h
      | true =>
        rw [hc, cond_true] at h
        cases h
        have hle := zble hc
        refine W.objInit hx hb hown (hts _ (zmp_4 hl)) (hts _ zob_i) (hts _ zob_c) rfl hls (rest := st'.map (zcv G)) rfl hd (Nat.le_trans (by decide) hRf) ?_ (k H locs cells slots rfl rfl hR hS)
        rw [zcat_map]
        show 2 * 0 + _ + 12 ≤ R.locals
        exact zl5 hle hRl
    all_goals cases h
  · cases h
end ZU
