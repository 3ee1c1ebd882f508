section ZU
variable {p : Program} {l : Launch} {e : Env} {R : Room} {s : State} {m : MethodId} {args : Array Value} {below : List Frame} {meth : Method} {c : Code} {H : Heap} {locs : List Loc} {cells slots : Nat} {Q : State → Prop} {G : zG} {cc : ByteArray} {ls : Array Slot} {pc : Nat} {σ : Nat → Nat × (Nat → Int32)} {cn : Nat} {st st' : List Value} {pc' : Nat} {M M' : zMem}
theorem zrc {a b n r : Nat} (h : a + (n + b) ≤ r + n) : a + b ≤ r := by omega
theorem zre (a b n : Nat) : a + b + n = a + (n + b) := by omega
theorem zl1 {n : Nat} (h : n < 999) : n < 1000 := by omega
theorem zl4 {n k : Nat} (h : n ≤ 10000) (hk : k ≤ 8) : n * k ≤ 536870912 := Nat.le_trans (Nat.mul_le_mul h hk) (by decide)
theorem zsz (hR : zRel G M H) (hS : va_S (zA G) s.heap H locs) (hbs : G.2.2.1 ≤ s.heap.size) (hX : s.heap.size + cells ≤ G.2.2.1 + M.1.length) (hsz : H.size ≤ s.heap.size + cells) : H.size = G.2.2.1 + M.1.length := by
  have h0 := hS.1
  rcases Nat.eq_zero_or_pos M.1.length with hz | hp
  · omega
  · have h1 := (hR.1 (M.1.length - 1) _ (zw_at G M (by omega))).lt
    have h2 : zad G (M.1.length - 1) < H.size := h1
    rw [zad_lt (by have := hR.2; omega)] at h2
    omega
theorem zpush_rel {q : Nat × Nat × List Nat} {n : Nat} {H1 : Heap} (hR : zRel G M H) (hl : M.1.length < 999) (hh : H.size = G.2.2.1 + M.1.length) (o1 : ∀ x : Nat, x < H.size → H1[x]? = H[x]?)
    (hat : va_at G.1 vwCl (H.size, zcell G (fun _ _ => 0) (fun _ _ => 0) M.1.length q) H1) : zRel G (zpush q n M) H1 := by
  refine ⟨?_, by show (M.1 ++ [q]).length ≤ 1000; simp; omega⟩
  have hq : (M.1 ++ [q])[M.1.length]? = some q := by simp
  have e1 : zcel G (zpush q n M) M.1.length = zcell G (fun _ _ => 0) (fun _ _ => 0) M.1.length q := by
    rw [zcel_eq (M := zpush q n M) hq]
    refine zcell_m ?_ ?_
    · show (if M.1.length = M.1.length then (fun _ => 0) else M.2.1 M.1.length) = _
      rw [if_pos rfl]
    · show (if M.1.length = M.1.length then (fun _ => 0) else M.2.2.1 M.1.length) = _
      rw [if_pos rfl]
  have e2 : ∀ j, j < M.1.length → zcel G (zpush q n M) j = zcel G M j := fun j hj => by
    refine zcel_m ?_ ?_ ?_
    · show (M.1 ++ [q])[j]? = _
      rw [List.getElem?_append_left hj]
    · show (if j = M.1.length then (fun _ => 0) else M.2.1 j) = _
      rw [if_neg (by omega)]
    · show (if j = M.1.length then (fun _ => 0) else M.2.2.1 j) = _
      rw [if_neg (by omega)]
  rw [← zw_push (M' := zpush q n M) rfl e1 e2]
  refine (hR.1.kept (fun k x hx => o1 x.1 ((hR.1 k x hx).lt))).app (fun k x hx => ?_)
  have hz : k < 1 := (List.getElem?_eq_some_iff.mp hx).1
  rw [show k = 0 by omega] at hx
  cases hx
  rw [zad_lt (zl1 hl), ← hh]
  exact hat
theorem zS_grow {H1 : Heap} (hS : va_S (zA G) s.heap H locs) (hz : H.size ≤ H1.size) (o1 : ∀ x : Nat, x < H.size → H1[x]? = H[x]?) : va_S (zA G) s.heap H1 locs :=
  ⟨Nat.le_trans hS.1 hz, fun x h1 h2 => (o1 x (Nat.lt_of_lt_of_le h1 hS.1)).trans (hS.2.1 x h1 h2), hS.2.2⟩
set_option maxHeartbeats 4000000 in
theorem znew_ok (B : zBd p s m args c cc cn G σ) {idx : Nat} (hd : decode cc pc = .ok (.new idx, 3)) (hR : zRel G M H) (hS : va_S (zA G) s.heap H locs) (hX : M.2.2.2.1 = true → s.heap.size + cells ≤ G.2.2.1 + M.1.length) (h : znew cn idx pc st M = some (pc', st', M')) (hrc : cells + M'.2.2.2.2.1 ≤ R.cells + M.2.2.2.2.1) (hrs : slots + M'.2.2.2.2.2 ≤ R.slots + M.2.2.2.2.2)
    (k : zKt p l e R s m args below meth c Q G ls cells slots M pc' st' M') : W p l e R s m args below meth c H locs cells slots Q (F0 m pc ls (st.map (zcv G))) := by
  obtain ⟨hx, hb, hown, hts, hK, hbs, hE⟩ := B
  unfold znew at h
  split at h
  · rename_i ci pl hl
    cases hc : (M.2.2.2.1 && Nat.blt M.1.length 999) with
    | false => rw [hc, cond_false] at h; cases h
    | true =>
      rw [hc, cond_true] at h
      obtain ⟨Z, hZ⟩ : ∃ Z, Z = zN ci := ⟨_, rfl⟩
      rw [← hZ] at h
      cases h
      rw [Bool.and_eq_true] at hc
      have hlt := zblt hc.2
      obtain ⟨q, hq, hlk⟩ := zcp_ok hl
      obtain ⟨a1, a2, a3, a4, a5, a6⟩ := zcl_all hq
      have hKn := hK.1 ci _ hq
      intro T hT X
      have hsz := X.heapSize
      rw [hT] at hsz
      have hh := zsz hR hS hbs (hX hc.1) hsz
      have hrc' : cells + 1 ≤ R.cells := zrc (n := M.2.2.2.2.1) hrc
      have aZ : q.2.2 = Z := by rw [hZ]; exact a5.symm
      have hrs' : slots + q.2.2 ≤ R.slots := by rw [aZ]; exact zrc (n := M.2.2.2.2.2) hrs
      suffices hW : W p l e R s m args below meth c H locs cells slots Q (F0 m pc ls (st.map (zcv G))) from hW T hT X
      refine W.newcK hx hb hown (hts _ hlk) (hts _ a2) (hts _ a3) rfl hd hrc' hrs' hKn.2.1 rfl (fun H1 kC hkC e1 z1 o1 => ?_)
      have hk := k H1 locs (cells + 1) (slots + q.2.2) (zre _ _ _) (by rw [aZ]; exact zre _ _ _) (zpush_rel hR hlt hh o1 ?_) (zS_grow hS (by rw [z1]; exact Nat.le_succ _) o1)
      · have e9 : (List.map (zcv G) (.ref M.1.length :: st)) = .ref H.size :: st.map (zcv G) := by
          show (.ref (zad G M.1.length) :: st.map (zcv G) : List Value) = _
          rw [zad_lt (zl1 hlt), hh]
        rw [e9] at hk
        exact hk
      · rw [zcel_obj (zcl_lt hq)]
        refine ⟨_, hq, (u_born (zty ci) hts (zcl_in hq) hKn hkC e1 (zcl_ty hq)).to (fun j hj => ?_)⟩
        obtain ⟨-, t, f, b2, -, b4⟩ := a6 j hj
        unfold vp_V
        rw [List.getD_eq_getElem?_getD, zfs_get (by rw [a5]; exact hj)]
        unfold zfv
        rw [b2]
        split
        · rename_i z hz
          cases hz
          have : zrv (List.replicate Z 0) j = none := by
            unfold zrv
            rw [List.getElem?_replicate]
            split
            · rename_i h1
              split at h1
              · cases h1
              · cases h1
            · rfl
          rw [this]
          revert b4
          cases zty ci j <;> first | (intro _; rfl) | (intro h; cases h; done)
        · rename_i hne
          revert b4
          cases hty : zty ci j <;> intro h <;> first | rfl | (match t, h, hne with | 2, _, hne => exact absurd rfl (hne f))
  · cases h
end ZU
