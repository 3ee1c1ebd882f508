/-! the claim's walk out of one run of the small machine -/
noncomputable def zMe : zMem := ([], fun _ _ => 0, fun _ _ => 0, true, 0, 0)
theorem zlaw_ent : zent 2024 = some (yL_law, cL_law, 7, some .boolean, [], zk_10_24) := rfl
theorem zhnd_law (pc e0 : Nat) : zhnd 2024 pc e0 = none := by
  unfold zhnd
  have h : zhd.find? (fun t => t.1 == 2024 && t.2.1 == pc && t.2.2.1 == e0) = none := by
    rw [List.find?_eq_none]
    intro t ht h
    simp only [Bool.and_eq_true, beq_iff_eq] at h
    have h2 := List.all_eq_true.mp (show zhd.all (fun t => t.1 != 2024) = true by decide +kernel) t ht
    rw [h.1.1] at h2
    cases h2
  rw [h]; rfl
theorem zret_law {i : Instr} {st : List Value} (h : zret 2024 i st = some (some (.int 1))) : i = .ireturn ∧ st = [.int 1] := by
  unfold zret at h
  rw [zlaw_ent] at h
  dsimp only at h
  split at h
  · split at h
    · rename_i x
      split at h
      · cases h; exact ⟨rfl, rfl⟩
      · cases h
    · cases h
  · split at h
    · cases h
    · cases h
  · split at h
    · cases h
    · cases h
  · cases h
theorem zclose {p : Program} {e : Env} {s : State} {m : MethodId} {below : List Frame} {meth : Method} {c : Code} (l : Launch) (hflags : l.flags = flags0) {b L : Nat} {xs : Nat → Int32} (C0 : lw_At p s m meth c b L xs) {M' : zMem} (hev : zEv (zsig L xs) 20 2024 0 (zarg 2024 [.ref 1000]) [] zMe (.inl (some (.int 1))) M') (hn : M'.2.2.2.2.1 ≤ room_1.cells) (hs : M'.2.2.2.2.2 ≤ room_1.slots) :
    W p l e room_1 s m #[Value.ref b] below meth c s.heap [] 0 0 (lw_Z below #[Value.ref b] s) (entryFrame m ([Value.ref b] : List Value).toArray 7) := by
  obtain ⟨G, B, hNC, hbase, hb0⟩ := zstart C0
  obtain ⟨n, hrun⟩ := hev
  obtain ⟨hx, hb, hr, hml, hown, hts, hX, hbl, hlocks, hgv⟩ := C0
  have hl : l.stackTraces = false := by
    unfold Launch.stackTraces
    rw [hflags]
    decide +kernel
  obtain ⟨ls, he, hlv, hnl⟩ := zentry (G := G) (j := 2024) zlaw_ent (as := [.ref 1000]) (fun v hv => by cases List.mem_singleton.mp hv; rfl) (by decide) m
  have e1 : (([.ref 1000] : List Value).map (zcv G)).toArray = #[Value.ref b] := by
    show #[Value.ref (zad G 1000)] = #[Value.ref b]
    rw [hb0]
  rw [e1] at he
  show W p l e room_1 s m #[Value.ref b] below meth c s.heap [] 0 0 (lw_Z below #[Value.ref b] s) (entryFrame m #[Value.ref b] 7)
  have he' : entryFrame m #[Value.ref b] 7 = F0 m 0 ls [] := he
  rw [he']
  refine zsound hl n 20 2024 0 _ [] zMe _ M' hrun p e room_1 s m #[Value.ref b] below meth c s.heap [] 0 0 ls _ _ zlaw_ent B hNC hml hr hlocks (fun h => absurd h (by decide)) (Nat.le_of_ble_eq_true rfl) (Nat.le_of_ble_eq_true rfl) hlv hnl ⟨(fun k q h => by simp [zw, zMe] at h), Nat.zero_le _⟩ va_S.rf (fun _ => ?_) ?_ ?_ (Or.inr ⟨⟨_, rfl⟩, fun pc e0 => zhnd_law pc e0⟩) ?_
  · show s.heap.size + 0 ≤ G.2.2.1 + 0
    rw [hbase]; exact Nat.le_refl _
  · show 0 + M'.2.2.2.2.1 ≤ room_1.cells + 0
    rw [Nat.zero_add]; exact hn
  · show 0 + M'.2.2.2.2.2 ≤ room_1.slots + 0
    rw [Nat.zero_add]; exact hs
  · intro v hv pc' i len st' H' locs' cells' slots' ls' hfe hret hR' hS' hc' hs'
    cases hv
    obtain ⟨rfl, rfl⟩ := zret_law hret
    obtain ⟨hd, hlen⟩ := zfe_ok hfe zlaw_ent
    obtain rfl := zlk hlen rfl
    refine W.widen (k := room_1.cells) (n := room_1.slots) hc' hs' (va_forget (fun q hq => ?_) (lw_ret hx hb hr hlocks hd))
    have h9 : G.2.2.1 ≤ q.base := hS'.2.2 q hq
    rw [hbase] at h9
    exact h9
