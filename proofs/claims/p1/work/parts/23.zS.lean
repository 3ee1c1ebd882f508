section ZW
variable {p : Program} {l : Launch} {e : Env} {R : Room} {s : State} {m : MethodId} {args : Array Value} {below : List Frame} {meth : Method} {c : Code} {H : Heap} {locs : List Loc} {cells slots : Nat} {Q : State → Prop} {G : zG} {cc : ByteArray} {ls : Array Slot} {pc : Nat} {σ : Nat → Nat × (Nat → Int32)} {cn : Nat} {st st' : List Value} {pc' : Nat} {M M' : zMem}
theorem zS_ok (B : zBd p s m args c cc cn G σ) {ini : Bool} (hin : ini = true → meth.name = "<init>") (hls : ls.size = c.maxLocals) (hRf : 6 ≤ R.frames) (hRl : 150 ≤ R.locals) {i : Instr} {len : Nat} (hd : decode cc pc = .ok (i, len)) (hlen : zsw i = true ∨ zlen i = len) (hR : zRel G M H) (hS : va_S (zA G) s.heap H locs) (hX : M.2.2.2.1 = true → s.heap.size + cells ≤ G.2.2.1 + M.1.length) (h : zS σ cn ini i pc st M = some (pc', st', M')) (hrc : cells + M'.2.2.2.2.1 ≤ R.cells + M.2.2.2.2.1) (hrs : slots + M'.2.2.2.2.2 ≤ R.slots + M.2.2.2.2.2)
    (k : zKt p l e R s m args below meth c Q G ls cells slots M pc' st' M') : W p l e R s m args below meth c H locs cells slots Q (F0 m pc ls (st.map (zcv G))) := by
  cases i
  case getfield idx => obtain rfl := zlk hlen rfl; exact zgetf_ok B hd hR hS h k
  case putfield idx => obtain rfl := zlk hlen rfl; exact zputf_ok B hin hd hR hS h k
  case iaload => obtain rfl := zlk hlen rfl; exact ziald_ok B hd hR hS h k
  case baload => obtain rfl := zlk hlen rfl; exact zbald_ok B hd hR hS h k
  case laload => obtain rfl := zlk hlen rfl; exact zlald_ok B hd hR hS h k
  case aaload => obtain rfl := zlk hlen rfl; exact zaald_ok B hd hR hS h k
  case iastore => obtain rfl := zlk hlen rfl; exact ziast_ok B hd hR hS h k
  case bastore => obtain rfl := zlk hlen rfl; exact zbast_ok B hd hR hS h k
  case lastore => obtain rfl := zlk hlen rfl; exact zlast_ok B hd hR hS h k
  case aastore => obtain rfl := zlk hlen rfl; exact zaast_ok B hd hR hS h k
  case arraylength => obtain rfl := zlk hlen rfl; exact zalen_ok B hd hR hS h k
  case new idx => obtain rfl := zlk hlen rfl; exact znew_ok B hd hR hS hX h hrc hrs k
  case newarray t => obtain rfl := zlk hlen rfl; exact znewa_ok B hd hR hS hX h hrc hrs k
  case anewarray idx => obtain rfl := zlk hlen rfl; exact zanew_ok B hd hR hS hX h hrc hrs k
  case getstatic idx => obtain rfl := zlk hlen rfl; exact zgets_ok B hd hR hS h k
  case invokespecial idx => obtain rfl := zlk hlen rfl; exact zoin_ok B hls hRf hRl hd hR hS h k
  case invokestatic idx => obtain rfl := zlk hlen rfl; exact zacp_ok B hls hRf hRl hd hR hS h k
  all_goals cases h
theorem zmx_c : Cond.code Lib.Math.max.name Lib.Math.max.code 2 (some .int) ∈ zWs := List.mem_filter.mpr ⟨List.mem_of_getElem? (i := 573) (by decide +kernel), rfl⟩
theorem zmn_c : Cond.code Lib.Math.min.name Lib.Math.min.code 2 (some .int) ∈ zWs := List.mem_filter.mpr ⟨List.mem_of_getElem? (i := 780) (by decide +kernel), rfl⟩
theorem zma_i : Cond.initialized "java/lang/Math" ∈ zWs := List.mem_filter.mpr ⟨List.mem_of_getElem? (i := 118) (by decide +kernel), rfl⟩
theorem zl7 {a r : Nat} (h : a ≤ 8) (hr : 150 ≤ r) : a + 13 ≤ r := by omega
theorem zmath_ok (B : zBd p s m args c cc cn G σ) (hls : ls.size = c.maxLocals) (hRf : 6 ≤ R.frames) (hRl : 150 ≤ R.locals) (hc : cells ≤ R.cells) (hs : slots ≤ R.slots) {i : Instr} {len : Nat} (hd : decode cc pc = .ok (i, len)) (hlen : zsw i = true ∨ zlen i = len) (h : zmath cn i pc st = some (pc', st')) (k : W p l e R s m args below meth c H locs cells slots Q (F0 m pc' ls (st'.map (zcv G)))) : W p l e R s m args below meth c H locs cells slots Q (F0 m pc ls (st.map (zcv G))) := by
  obtain ⟨hx, hb, hown, hts, hK, hbs, hE⟩ := B
  unfold zmath at h
  cases i
  case invokestatic idx =>
    obtain rfl := zlk hlen rfl
    dsimp only at h
    split at h
    · rename_i pl hl
      obtain ⟨q, hq, w1, w2, -⟩ := zk1_ok hl
      cases hq
      split at h
      · rename_i y x r
        rw [cond_eq_ite] at h
        split at h
        · rename_i hs9
          cases h
          exact va_mmax hx hb hls.symm hown (hts _ w1) (hts _ w2) (hts _ zma_i) (hts _ zmx_c) (Nat.le_trans (by decide) hRf) (by rw [zsum_map]; exact zl7 (zble hs9) hRl) hc hs hd k
        · cases h
      · cases h
    · rename_i pl hl
      obtain ⟨q, hq, w1, w2, -⟩ := zk1_ok hl
      cases hq
      split at h
      · rename_i y x r
        rw [cond_eq_ite] at h
        split at h
        · rename_i hs9
          cases h
          exact va_mmin hx hb hls.symm hown (hts _ w1) (hts _ w2) (hts _ zma_i) (hts _ zmn_c) (Nat.le_trans (by decide) hRf) (by rw [zsum_map]; exact zl7 (zble hs9) hRl) hc hs hd k
        · cases h
      · cases h
    · cases h
  all_goals cases h
end ZW
