section ZU
variable {p : Program} {l : Launch} {e : Env} {R : Room} {s : State} {m : MethodId} {args : Array Value} {below : List Frame} {meth : Method} {c : Code} {H : Heap} {locs : List Loc} {cells slots : Nat} {Q : State → Prop} {G : zG} {cc : ByteArray} {ls : Array Slot} {pc : Nat} {σ : Nat → Nat × (Nat → Int32)} {cn : Nat} {st st' : List Value} {pc' : Nat} {M M' : zMem}
theorem zcA {cA : ClassId} {ty : FieldType} {t : Nat} (hK : va_K G.1 vwCl (ztys G) s) (ht : (ztys G)[t]? = some (G.2.1 t, ty)) (hn : va_RA s (G.2.1 t) ty → s.vm.findClass ("[" ++ ty.toString) = some (G.2.1 t)) (h : s.vm.findClass ("[" ++ ty.toString) = some cA) : cA = G.2.1 t := Option.some.inj (h.symm.trans (hn (hK.2 t _ ht).2))
set_option maxHeartbeats 4000000 in
theorem znewa_ok (B : zBd p s m args c cc cn G σ) {t : ArrayType} (hd : decode cc pc = .ok (.newarray t, 2)) (hR : zRel G M H) (hS : va_S (zA G) s.heap H locs) (hX : M.2.2.2.1 = true → s.heap.size + cells ≤ G.2.2.1 + M.1.length) (h : znewa t pc st M = some (pc', st', M')) (hrc : cells + M'.2.2.2.2.1 ≤ R.cells + M.2.2.2.2.1) (hrs : slots + M'.2.2.2.2.2 ≤ R.slots + M.2.2.2.2.2)
    (k : zKt p l e R s m args below meth c Q G ls cells slots M pc' st' M') : W p l e R s m args below meth c H locs cells slots Q (F0 m pc ls (st.map (zcv G))) := by
  obtain ⟨hx, hb, hown, hts, hK, hbs, hE⟩ := B
  unfold znewa at h
  split at h
  · rename_i n r
    cases hc : (M.2.2.2.1 && Nat.blt M.1.length 999 && decide (¬ n < 0) && Nat.ble n.toNatClampNeg 10000) with
    | false => rw [hc, cond_false] at h; cases h
    | true =>
      rw [hc, cond_true] at h
      obtain ⟨N, hN⟩ : ∃ N, N = n.toNatClampNeg := ⟨_, rfl⟩
      rw [← hN] at h hc
      simp only [Bool.and_eq_true] at hc
      obtain ⟨⟨⟨c1, c2⟩, c3⟩, c4⟩ := hc
      have hlt := zblt c2
      have hn := of_decide_eq_true c3
      have hle := zble c4
      intro T hT X
      have hsz := X.heapSize
      rw [hT] at hsz
      have hh := zsz hR hS hbs (hX c1) hsz
      have e9 : (List.map (zcv G) (.ref M.1.length :: r)) = .ref H.size :: r.map (zcv G) := by
        show (.ref (zad G M.1.length) :: r.map (zcv G) : List Value) = _
        rw [zad_lt (zl1 hlt), hh]
      cases t
      case int =>
        cases h
        have hrc' : cells + 1 ≤ R.cells := zrc (n := M.2.2.2.2.1) hrc
        have hrs' : slots + N ≤ R.slots := zrc (n := M.2.2.2.2.2) hrs
        suffices hW : W p l e R s m args below meth c H locs cells slots Q (F0 m pc ls (.int n :: r.map (zcv G))) from hW T hT X
        refine va_newaK (atype := .int) hx hb (hts _ zarr_i) rfl hd rfl hn hN.symm (zl4 (k := 4) hle (by decide)) hrc' hrs' rfl (fun H1 cA e1 z1 o1 hAr hNm => ?_)
        have hcA : cA = G.2.1 0 := zcA (ty := .int) (t := 0) hK rfl (fun h => h) hNm
        subst hcA
        have hk := k H1 locs (cells + 1) (slots + N) (zre _ _ _) (zre _ _ _) (zpush_rel hR hlt hh o1 (by rw [zcell_10]; exact e1)) (zS_grow hS (by rw [z1]; exact Nat.le_succ _) o1)
        rw [e9] at hk
        exact hk
      case byte =>
        cases h
        have hrc' : cells + 1 ≤ R.cells := zrc (n := M.2.2.2.2.1) hrc
        have hrs' : slots + N ≤ R.slots := zrc (n := M.2.2.2.2.2) hrs
        suffices hW : W p l e R s m args below meth c H locs cells slots Q (F0 m pc ls (.int n :: r.map (zcv G))) from hW T hT X
        refine va_newaK (atype := .byte) hx hb (hts _ zarr_b) rfl hd rfl hn hN.symm (zl4 (k := 1) hle (by decide)) hrc' hrs' rfl (fun H1 cA e1 z1 o1 hAr hNm => ?_)
        have hcA : cA = G.2.1 1 := zcA (ty := .byte) (t := 1) hK rfl (fun h => h) hNm
        subst hcA
        have hk := k H1 locs (cells + 1) (slots + N) (zre _ _ _) (zre _ _ _) (zpush_rel hR hlt hh o1 (by rw [zcell_11]; exact e1)) (zS_grow hS (by rw [z1]; exact Nat.le_succ _) o1)
        rw [e9] at hk
        exact hk
      case long =>
        cases h
        have hrc' : cells + 1 ≤ R.cells := zrc (n := M.2.2.2.2.1) hrc
        have hrs' : slots + N ≤ R.slots := zrc (n := M.2.2.2.2.2) hrs
        suffices hW : W p l e R s m args below meth c H locs cells slots Q (F0 m pc ls (.int n :: r.map (zcv G))) from hW T hT X
        refine va_newaK (atype := .long) hx hb (hts _ zarr_l) rfl hd rfl hn hN.symm (zl4 (k := 8) hle (by decide)) hrc' hrs' rfl (fun H1 cA e1 z1 o1 hAr hNm => ?_)
        have hcA : cA = G.2.1 4 := zcA (ty := .long) (t := 4) hK rfl (fun h => h) hNm
        subst hcA
        have hk := k H1 locs (cells + 1) (slots + N) (zre _ _ _) (zre _ _ _) (zpush_rel hR hlt hh o1 (by rw [zcell_14]; exact e1)) (zS_grow hS (by rw [z1]; exact Nat.le_succ _) o1)
        rw [e9] at hk
        exact hk
      all_goals cases h
  · cases h
set_option maxHeartbeats 4000000 in
theorem zanew1 {C : String} {kd t ci pl idx : Nat} {n : Int32} {N : Nat} (hN : n.toNatClampNeg = N) {r : List Value} (hx : p.tables.exec = Jvm.exec) (hb : c.code = cc) (hown : s.vm.findClass (zcn cn) = some m.cls) (hK : va_K G.1 vwCl (ztys G) s) (hbs : G.2.2.1 ≤ s.heap.size) (hlk : (Cond.classLink (zcn cn) idx C).before args s = true) (hov : va_AO C s) (ht : (ztys G)[t]? = some (G.2.1 t, .object C))
    (hcell : ∀ i, zcell G (fun _ _ => 0) (fun _ _ => 0) i (kd, N, List.replicate N 0) = .inl (G.2.1 t, N, .inr (.inr (.inr (.inr (fun k => (zrv (List.replicate N 0) k).map (zad G)))))))
    (hd : decode cc pc = .ok (.anewarray idx, 3)) (hR : zRel G M H) (hS : va_S (zA G) s.heap H locs) (hX : s.heap.size + cells ≤ G.2.2.1 + M.1.length) (hlt : M.1.length < 999) (hn : ¬ n < 0) (hle : N ≤ 10000) (hrc' : cells + 1 ≤ R.cells) (hrs' : slots + N ≤ R.slots)
    (k : zKt p l e R s m args below meth c Q G ls cells slots M (pc + 3) (.ref M.1.length :: r) (zpush (kd, N, List.replicate N 0) N M)) : W p l e R s m args below meth c H locs cells slots Q (F0 m pc ls ((.int n :: r : List Value).map (zcv G))) := by
  subst hN
  intro T hT X
  have hsz := X.heapSize
  rw [hT] at hsz
  have hh := zsz hR hS hbs hX hsz
  have e9 : (List.map (zcv G) (.ref M.1.length :: r)) = .ref H.size :: r.map (zcv G) := by
    show (.ref (zad G M.1.length) :: r.map (zcv G) : List Value) = _
    rw [zad_lt (zl1 hlt), hh]
  suffices hW : W p l e R s m args below meth c H locs cells slots Q (F0 m pc ls (.int n :: r.map (zcv G))) from hW T hT X
  refine W.anew hx hb hown hlk (va_AO.use hov) rfl hd rfl hn (zl4 (k := 4) hle (by decide)) hrc' hrs' (fun cA kA comp f1 f2 f3 f4 => ?_)
  have hcA : cA = G.2.1 t := zcA hK ht (fun h => by obtain ⟨kA, comp, -, -, -, h4⟩ := h; exact h4) f1
  subst hcA
  generalize hH1 : H.push ({ cls := G.2.1 t, slots := Array.replicate n.toNatClampNeg .null, vm := .none } : Cell) = H1
  have z1 : H1.size = H.size + 1 := by rw [← hH1, Array.size_push]
  have e1 : H1[H.size]? = some (arrV (G.2.1 t) n.toNatClampNeg (fun _ => .null)) := by rw [← hH1, Array.getElem?_push_size, ← arrV_new]
  have o1 : ∀ q : Nat, q < H.size → H1[q]? = H[q]? := fun q hq => by rw [← hH1, Array.getElem?_push, if_neg (Nat.ne_of_lt hq)]
  have hk := k H1 locs (cells + 1) (slots + n.toNatClampNeg) (zre _ _ _) (zre _ _ _) (zpush_rel hR hlt hh o1 ?_) (zS_grow hS (by rw [z1]; exact Nat.le_succ _) o1)
  · rw [e9] at hk
    exact hk
  · rw [hcell]
    show H1[H.size]? = some (arrV _ _ (fun j => va_rf ((zrv (List.replicate n.toNatClampNeg 0) j).map (zad G))))
    rw [e1]
    congr 2
    funext j
    have : zrv (List.replicate n.toNatClampNeg 0) j = none := by
      unfold zrv
      rw [List.getElem?_replicate]
      split
      · rename_i h1
        split at h1
        · cases h1
        · cases h1
      · rfl
    rw [this]; rfl
end ZU
