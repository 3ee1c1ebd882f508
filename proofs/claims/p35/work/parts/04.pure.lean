theorem zcv_cat (G : zG) (v : Value) : (zcv G v).category = v.category := by cases v <;> rfl
theorem zlv_mem {G : zG} {lv : zLv} {j : Nat} {w : Value} : (j, w) ∈ zlv G lv ↔ ∃ v, lv[j]? = some (some v) ∧ v.category = 1 ∧ zcv G v = w := by
  unfold zlv
  rw [List.mem_filterMap]
  constructor
  · rintro ⟨a, ha, h⟩
    split at h
    · rename_i v hv
      split at h
      · rename_i hc
        cases h
        exact ⟨v, hv, hc, rfl⟩
      · cases h
    · cases h
  · rintro ⟨v, hv, hc, rfl⟩
    refine ⟨j, List.mem_range.mpr ?_, ?_⟩
    · exact (List.getElem?_eq_some_iff.mp hv).1
    · simp [hv, hc]
theorem zlv_get {G : zG} {ls : Array Slot} {nL : Nat} {lv : zLv} (hl : lv_has ls nL (zlv G lv)) {k : Nat} {v : Value} (h : lv[k]? = some (some v)) (hc : v.category = 1) : ls[k]? = some (.val (zcv G v)) := hl.2.2 (k, zcv G v) (zlv_mem.mpr ⟨v, h, hc, rfl⟩)
theorem zlv_set {G : zG} {ls : Array Slot} {nL : Nat} {lv : zLv} {k : Nat} {v : Value} {w : Value} (hw : zcv G v = w) (h : lv_has ls nL ((k, w) :: (zlv G lv).filter (fun q => !(q.1 == k) && !(q.1 + 1 == k && q.2.category == 2)))) : lv_has ls nL (zlv G (lv.set k (some v))) := by
  subst hw
  refine ⟨h.1, h.2.1, fun q hq => h.2.2 q ?_⟩
  obtain ⟨j, x⟩ := q
  obtain ⟨u, hu, hc, rfl⟩ := zlv_mem.mp hq
  rw [List.getElem?_set] at hu
  by_cases hk : k = j
  · subst hk
    rw [if_pos rfl] at hu
    split at hu
    · cases hu
      exact List.mem_cons_self
    · cases hu
  · rw [if_neg hk] at hu
    refine List.mem_cons_of_mem _ (List.mem_filter.mpr ⟨zlv_mem.mpr ⟨u, hu, hc, rfl⟩, ?_⟩)
    have h1 : (j == k) = false := by simp; exact fun e => hk e.symm
    have h2 : ((zcv G u).category == 2) = false := by rw [zcv_cat, hc]; rfl
    simp only [h1, h2, Bool.and_false, Bool.not_false, Bool.and_self]
theorem zlk {i : Instr} {len : Nat} (h : zsw i = true ∨ zlen i = len) (hs : zsw i = false) : len = zlen i := by
  rcases h with h | h
  · rw [hs] at h; cases h
  · exact h.symm
theorem ztg_ok {pc : Nat} {off : Int} {t : Nat} (h : ztg pc off = some t) : (pc : Int) + off = (t : Int) := by
  unfold ztg at h
  split at h
  · cases h
    rename_i h0
    exact (Int.toNat_of_nonneg h0).symm
  · cases h
theorem zlk_of {α β : Type} {l : List (Nat × α)} {k : Nat} {v : α} (h : l.lookup k = some v) : (k, v) ∈ l := by
  induction l with
  | nil => cases h
  | cons a t ih =>
    obtain ⟨x, y⟩ := a
    rw [List.lookup_cons] at h
    by_cases hx : k = x
    · subst hx
      rw [beq_self_eq_true] at h
      cases h
      exact List.mem_cons_self
    · rw [show (k == x) = false by simp [hx]] at h
      exact List.mem_cons_of_mem _ (ih h)
noncomputable def zWs : List Cond := lw_tbl.filter goodWord
noncomputable def zipck (c : Nat) : Bool := (zip_ c).all (fun e => decide (lw_tbl[e.2.2]? = some (.constant (zcn c) e.1 e.2.1)))
theorem zipck_0 : (List.range 13).all zipck = true := by decide +kernel
theorem zip_ge {c : Nat} (h : 13 ≤ c) : zip_ c = [] := by
  unfold zip_
  split <;> first | rfl | omega
theorem zint_ok {c idx : Nat} {v : Int32} (h : zint c idx = some v) : Cond.constant (zcn c) idx v ∈ zWs := by
  unfold zint at h
  cases h1 : (zip_ c).lookup idx with
  | none => rw [h1] at h; cases h
  | some q =>
    rw [h1] at h
    cases h
    have hm := zlk_of (β := Unit) h1
    have hc : c < 13 := by
      apply Nat.lt_of_not_le
      intro hc
      rw [zip_ge hc] at hm
      cases hm
    have h2 := List.all_eq_true.mp (List.all_eq_true.mp zipck_0 c (List.mem_range.mpr hc)) _ hm
    exact List.mem_filter.mpr ⟨List.mem_of_getElem? (of_decide_eq_true h2), rfl⟩
section ZP
variable {p : Program} {l : Launch} {e : Env} {R : Room} {s : State} {m : MethodId} {args : Array Value} {below : List Frame} {meth : Method} {c : Code} {H : Heap} {locs : List Loc} {cells slots : Nat} {Q : State → Prop} {G : zG} {cc : ByteArray} {ls : Array Slot} {pc : Nat} {lv : zLv} {nL : Nat}
theorem zldI_ok {i k pc1 : Nat} {st st' : List Value} {pc' : Nat} {lv' : zLv} (hl : lv_has ls nL (zlv G lv)) (hP : zldI lv k pc1 st = some (pc', lv', st')) : ∃ x, ls[k]? = some (.val (.int x)) ∧ pc' = pc1 ∧ lv' = lv ∧ st' = .int x :: st := by
  unfold zldI at hP
  split at hP
  · rename_i x hx
    cases hP
    exact ⟨x, zlv_get hl hx rfl, rfl, rfl, rfl⟩
  · cases hP
theorem zldA_ok {i k pc1 : Nat} {st st' : List Value} {pc' : Nat} {lv' : zLv} (hl : lv_has ls nL (zlv G lv)) (hP : zldA lv k pc1 st = some (pc', lv', st')) : ∃ x, ls[k]? = some (.val (.ref (zad G x))) ∧ pc' = pc1 ∧ lv' = lv ∧ st' = .ref x :: st := by
  unfold zldA at hP
  split at hP
  · rename_i x hx
    cases hP
    exact ⟨x, zlv_get hl hx rfl, rfl, rfl, rfl⟩
  · cases hP
theorem zstI_ok {k pc1 : Nat} {st st' : List Value} {pc' : Nat} {lv' : zLv} (hP : zstI lv k pc1 st = some (pc', lv', st')) : ∃ x r, st = .int x :: r ∧ k < lv.length ∧ pc' = pc1 ∧ lv' = lv.set k (some (.int x)) ∧ st' = r := by
  unfold zstI at hP
  split at hP
  · rename_i x r
    split at hP
    · rename_i hk
      cases hP
      exact ⟨x, _, rfl, hk, rfl, rfl, rfl⟩
    · cases hP
  · cases hP
theorem zstA_ok {k pc1 : Nat} {st st' : List Value} {pc' : Nat} {lv' : zLv} (hP : zstA lv k pc1 st = some (pc', lv', st')) : ∃ x r, st = .ref x :: r ∧ k < lv.length ∧ pc' = pc1 ∧ lv' = lv.set k (some (.ref x)) ∧ st' = r := by
  unfold zstA at hP
  split at hP
  · rename_i x r
    split at hP
    · rename_i hk
      cases hP
      exact ⟨x, _, rfl, hk, rfl, rfl, rfl⟩
    · cases hP
  · cases hP
theorem z2_ok {f : Int32 → Int32 → Int32} {st st' : List Value} {pc' : Nat} {lv' : zLv} (hP : z2 f pc lv st = some (pc', lv', st')) : ∃ x y r, st = .int y :: .int x :: r ∧ pc' = pc + 1 ∧ lv' = lv ∧ st' = .int (f x y) :: r := by
  unfold z2 at hP
  split at hP
  · rename_i y x r
    cases hP
    exact ⟨x, y, _, rfl, rfl, rfl, rfl⟩
  · cases hP
theorem z2d_ok {f : Int32 → Int32 → Int32} {st st' : List Value} {pc' : Nat} {lv' : zLv} (hP : z2d f pc lv st = some (pc', lv', st')) : ∃ x y r, st = .int y :: .int x :: r ∧ ¬ y = 0 ∧ pc' = pc + 1 ∧ lv' = lv ∧ st' = .int (f x y) :: r := by
  unfold z2d at hP
  split at hP
  · rename_i y x r
    split at hP
    · cases hP
    · rename_i hy
      cases hP
      exact ⟨x, y, _, rfl, hy, rfl, rfl, rfl⟩
  · cases hP
theorem zgo_ok {off : Int} {st st' : List Value} {pc' : Nat} {lv' : zLv} (hP : zgo pc off lv st = some (pc', lv', st')) : (pc : Int) + off = (pc' : Int) ∧ lv' = lv ∧ st' = st := by
  unfold zgo at hP
  cases h : ztg pc off with
  | none => rw [h] at hP; cases hP
  | some t =>
    rw [h] at hP
    cases hP
    exact ⟨ztg_ok h, rfl, rfl⟩
theorem zbr_ok {b : Bool} {off : Int} {st st' : List Value} {pc' : Nat} {lv' : zLv} (hP : zbr b pc off lv st = some (pc', lv', st')) : ∃ t : Nat, (pc : Int) + off = (t : Int) ∧ pc' = (bif b then t else pc + 3) ∧ lv' = lv ∧ st' = st := by
  unfold zbr at hP
  cases h : ztg pc off with
  | none => rw [h] at hP; cases hP
  | some t =>
    rw [h] at hP
    cases hP
    exact ⟨t, ztg_ok h, rfl, rfl, rfl⟩
set_option maxHeartbeats 4000000 in
theorem zP_ok (hx : p.tables.exec = Jvm.exec) (hb : c.code = cc) {cn : Nat} (hown : s.vm.findClass (zcn cn) = some m.cls) (hts : ∀ w ∈ zWs, w.before args s = true) {i : Instr} {len : Nat} (hd : decode cc pc = .ok (i, len)) (hlen : zsw i = true ∨ zlen i = len)
    (hl : lv_has ls nL (zlv G lv)) (hnl : lv.length = nL) {st st' : List Value} {pc' : Nat} {lv' : zLv} (hP : zP cn i pc lv st = some (pc', lv', st'))
    (k : ∀ ls' : Array Slot, lv_has ls' nL (zlv G lv') → lv'.length = nL → W p l e R s m args below meth c H locs cells slots Q (F0 m pc' ls' (st'.map (zcv G)))) : W p l e R s m args below meth c H locs cells slots Q (F0 m pc ls (st.map (zcv G))) := by
  cases i
  case iconst n => obtain rfl := zlk hlen rfl; cases hP; exact lv_iconst hx hb hd rfl (k ls hl hnl)
  case bipush n => obtain rfl := zlk hlen rfl; cases hP; exact lv_bipush hx hb hd rfl (k ls hl hnl)
  case sipush n => obtain rfl := zlk hlen rfl; cases hP; exact lv_sipush hx hb hd rfl (k ls hl hnl)
  case iload_n n => obtain rfl := zlk hlen rfl; obtain ⟨x, h1, rfl, rfl, rfl⟩ := zldI_ok (i := 0) hl hP; exact lv_iload_n hx hb hd rfl h1 (k ls hl hnl)
  case iload n => obtain rfl := zlk hlen rfl; obtain ⟨x, h1, rfl, rfl, rfl⟩ := zldI_ok (i := 0) hl hP; exact lv_iload hx hb hd h1 (k ls hl hnl)
  case aload_n n => obtain rfl := zlk hlen rfl; obtain ⟨x, h1, rfl, rfl, rfl⟩ := zldA_ok (i := 0) hl hP; exact lv_aload_n hx hb hd rfl h1 (k ls hl hnl)
  case aload n => obtain rfl := zlk hlen rfl; obtain ⟨x, h1, rfl, rfl, rfl⟩ := zldA_ok (i := 0) hl hP; exact lv_aload hx hb hd h1 (k ls hl hnl)
  case istore_n n => obtain rfl := zlk hlen rfl; obtain ⟨x, r, rfl, hk, rfl, rfl, rfl⟩ := zstI_ok hP; exact lv_istore_n hx hb hd rfl hl (by rw [← hnl]; exact hk) rfl (fun ls' h => k ls' (zlv_set (v := .int x) rfl h) (by rw [List.length_set]; exact hnl))
  case istore n => obtain rfl := zlk hlen rfl; obtain ⟨x, r, rfl, hk, rfl, rfl, rfl⟩ := zstI_ok hP; exact lv_istore hx hb hd hl (by rw [← hnl]; exact hk) rfl (fun ls' h => k ls' (zlv_set (v := .int x) rfl h) (by rw [List.length_set]; exact hnl))
  case astore_n n => obtain rfl := zlk hlen rfl; obtain ⟨x, r, rfl, hk, rfl, rfl, rfl⟩ := zstA_ok hP; exact lv_astore_n hx hb hd rfl hl (by rw [← hnl]; exact hk) rfl (fun ls' h => k ls' (zlv_set (v := .ref x) rfl h) (by rw [List.length_set]; exact hnl))
  case astore n => obtain rfl := zlk hlen rfl; obtain ⟨x, r, rfl, hk, rfl, rfl, rfl⟩ := zstA_ok hP; exact lv_astore hx hb hd hl (by rw [← hnl]; exact hk) rfl (fun ls' h => k ls' (zlv_set (v := .ref x) rfl h) (by rw [List.length_set]; exact hnl))
  case iinc n q =>
    obtain rfl := zlk hlen rfl
    simp only [zP] at hP
    split at hP
    · rename_i x hx2
      cases hP
      have hm : (n, Value.int x) ∈ zlv G lv := zlv_mem.mpr ⟨_, hx2, rfl, rfl⟩
      obtain ⟨q2, hq2⟩ := List.getElem?_of_mem hm
      exact lv_iinc hx hb hd hl hq2 rfl (by rw [← hnl]; exact (List.getElem?_eq_some_iff.mp hx2).1) rfl (fun ls' h => k ls' (zlv_set (v := .int (x + Int32.ofInt q)) rfl h) (by rw [List.length_set]; exact hnl))
    · cases hP
  case iadd => obtain rfl := zlk hlen rfl; obtain ⟨x, y, r, rfl, rfl, rfl, rfl⟩ := z2_ok hP; exact lv_iadd hx hb hd (k ls hl hnl)
  case isub => obtain rfl := zlk hlen rfl; obtain ⟨x, y, r, rfl, rfl, rfl, rfl⟩ := z2_ok hP; exact lv_isub hx hb hd (k ls hl hnl)
  case imul => obtain rfl := zlk hlen rfl; obtain ⟨x, y, r, rfl, rfl, rfl, rfl⟩ := z2_ok hP; exact lv_imul hx hb hd (k ls hl hnl)
  case iand => obtain rfl := zlk hlen rfl; obtain ⟨x, y, r, rfl, rfl, rfl, rfl⟩ := z2_ok hP; exact lv_iand hx hb hd (k ls hl hnl)
  case ior => obtain rfl := zlk hlen rfl; obtain ⟨x, y, r, rfl, rfl, rfl, rfl⟩ := z2_ok hP; exact lv_ior hx hb hd (k ls hl hnl)
  case ixor => obtain rfl := zlk hlen rfl; obtain ⟨x, y, r, rfl, rfl, rfl, rfl⟩ := z2_ok hP; exact lv_ixor hx hb hd (k ls hl hnl)
  case ishl => obtain rfl := zlk hlen rfl; obtain ⟨x, y, r, rfl, rfl, rfl, rfl⟩ := z2_ok hP; exact lv_ishl hx hb hd (k ls hl hnl)
  case ishr => obtain rfl := zlk hlen rfl; obtain ⟨x, y, r, rfl, rfl, rfl, rfl⟩ := z2_ok hP; exact lv_ishr hx hb hd (k ls hl hnl)
  case iushr => obtain rfl := zlk hlen rfl; obtain ⟨x, y, r, rfl, rfl, rfl, rfl⟩ := z2_ok hP; exact lv_iushr hx hb hd rfl (k ls hl hnl)
  case idiv => obtain rfl := zlk hlen rfl; obtain ⟨x, y, r, rfl, hy, rfl, rfl, rfl⟩ := z2d_ok hP; exact lv_idiv hx hb hd hy (k ls hl hnl)
  case irem => obtain rfl := zlk hlen rfl; obtain ⟨x, y, r, rfl, hy, rfl, rfl, rfl⟩ := z2d_ok hP; exact lv_irem hx hb hd hy (k ls hl hnl)
  case i2l =>
    obtain rfl := zlk hlen rfl
    simp only [zP] at hP
    split at hP
    · cases hP; exact lv_i2l hx hb hd rfl (k ls hl hnl)
    · cases hP
  case i2b =>
    obtain rfl := zlk hlen rfl
    simp only [zP] at hP
    split at hP
    · cases hP; exact lv_i2b hx hb hd rfl (k ls hl hnl)
    · cases hP
  case lcmp =>
    obtain rfl := zlk hlen rfl
    simp only [zP] at hP
    split at hP
    · cases hP; exact W.lcmp hx hb hd (k ls hl hnl)
    · cases hP
  case dup =>
    obtain rfl := zlk hlen rfl
    simp only [zP] at hP
    split at hP
    · split at hP
      · rename_i hc
        cases hP; exact lv_dup hx hb hd (by rw [zcv_cat]; exact hc) (k ls hl hnl)
      · cases hP
    · cases hP
  case dup2 =>
    obtain rfl := zlk hlen rfl
    simp only [zP] at hP
    split at hP
    · split at hP
      · rename_i hc
        cases hP; exact lv_dup2_11 hx hb hd (by rw [zcv_cat]; exact hc.1) (by rw [zcv_cat]; exact hc.2) (k ls hl hnl)
      · cases hP
    · cases hP
  case pop =>
    obtain rfl := zlk hlen rfl
    simp only [zP] at hP
    split at hP
    · split at hP
      · rename_i hc
        cases hP; exact lv_pop hx hb hd (by rw [zcv_cat]; exact hc) (k ls hl hnl)
      · cases hP
    · cases hP
  case goto off => obtain rfl := zlk hlen rfl; obtain ⟨h1, rfl, rfl⟩ := zgo_ok hP; exact lv_goto hx hb hd h1 (k ls hl hnl)
  case ifCond kk off =>
    obtain rfl := zlk hlen rfl
    simp only [zP] at hP
    split at hP
    · rename_i x r
      obtain ⟨t, ht, hpc, rfl, rfl⟩ := zbr_ok hP
      cases kk
      case eq => exact lv_if_eq hx hb hd ht (fun h => by simp only [zc1, decide_eq_true h, cond_true] at hpc; subst hpc; exact k ls hl hnl) (fun h => by simp only [zc1, decide_eq_false h, cond_false] at hpc; subst hpc; exact k ls hl hnl)
      case ne => exact lv_if_ne hx hb hd ht (fun h => by simp only [zc1, decide_eq_true h, cond_true] at hpc; subst hpc; exact k ls hl hnl) (fun h => by simp only [zc1, decide_eq_false (not_not_intro h), cond_false] at hpc; subst hpc; exact k ls hl hnl)
      case lt => exact lv_if_lt hx hb hd ht (fun h => by simp only [zc1, decide_eq_true h, cond_true] at hpc; subst hpc; exact k ls hl hnl) (fun h => by simp only [zc1, decide_eq_false h, cond_false] at hpc; subst hpc; exact k ls hl hnl)
      case ge => exact lv_if_ge hx hb hd ht (fun h => by simp only [zc1, decide_eq_true h, cond_true] at hpc; subst hpc; exact k ls hl hnl) (fun h => by simp only [zc1, decide_eq_false h, cond_false] at hpc; subst hpc; exact k ls hl hnl)
      case gt => exact lv_if_gt hx hb hd ht (fun h => by simp only [zc1, decide_eq_true h, cond_true] at hpc; subst hpc; exact k ls hl hnl) (fun h => by simp only [zc1, decide_eq_false h, cond_false] at hpc; subst hpc; exact k ls hl hnl)
      case le => exact lv_if_le hx hb hd ht (fun h => by simp only [zc1, decide_eq_true h, cond_true] at hpc; subst hpc; exact k ls hl hnl) (fun h => by simp only [zc1, decide_eq_false h, cond_false] at hpc; subst hpc; exact k ls hl hnl)
    · cases hP
  case if_icmp kk off =>
    obtain rfl := zlk hlen rfl
    simp only [zP] at hP
    split at hP
    · rename_i y x r
      obtain ⟨t, ht, hpc, rfl, rfl⟩ := zbr_ok hP
      cases kk
      case eq => exact lv_icmp_eq hx hb hd ht (fun h => by simp only [zc2, decide_eq_true h, cond_true] at hpc; subst hpc; exact k ls hl hnl) (fun h => by simp only [zc2, decide_eq_false h, cond_false] at hpc; subst hpc; exact k ls hl hnl)
      case ne => exact lv_icmp_ne hx hb hd ht (fun h => by simp only [zc2, decide_eq_true h, cond_true] at hpc; subst hpc; exact k ls hl hnl) (fun h => by simp only [zc2, decide_eq_false (not_not_intro h), cond_false] at hpc; subst hpc; exact k ls hl hnl)
      case lt => exact lv_icmp_lt hx hb hd ht (fun h => by simp only [zc2, decide_eq_true h, cond_true] at hpc; subst hpc; exact k ls hl hnl) (fun h => by simp only [zc2, decide_eq_false h, cond_false] at hpc; subst hpc; exact k ls hl hnl)
      case ge => exact lv_icmp_ge hx hb hd ht (fun h => by simp only [zc2, decide_eq_true h, cond_true] at hpc; subst hpc; exact k ls hl hnl) (fun h => by simp only [zc2, decide_eq_false h, cond_false] at hpc; subst hpc; exact k ls hl hnl)
      case gt => exact lv_icmp_gt hx hb hd ht (fun h => by simp only [zc2, decide_eq_true h, cond_true] at hpc; subst hpc; exact k ls hl hnl) (fun h => by simp only [zc2, decide_eq_false h, cond_false] at hpc; subst hpc; exact k ls hl hnl)
      case le => exact lv_icmp_le hx hb hd ht (fun h => by simp only [zc2, decide_eq_true h, cond_true] at hpc; subst hpc; exact k ls hl hnl) (fun h => by simp only [zc2, decide_eq_false h, cond_false] at hpc; subst hpc; exact k ls hl hnl)
    · cases hP
  case tableswitch dflt lo hi offs =>
    simp only [zP] at hP
    split at hP
    · split at hP
      · rename_i hc
        obtain ⟨h1, rfl, rfl⟩ := zgo_ok hP
        exact lv_tableOut hx hb hd hc h1 (k ls hl hnl)
      · rename_i hc
        split at hP
        · rename_i off ho
          obtain ⟨h1, rfl, rfl⟩ := zgo_ok hP
          exact lv_tableIn hx hb hd (fun h => hc (Or.inl h)) (fun h => hc (Or.inr h)) ho h1 (k ls hl hnl)
        · cases hP
    · cases hP
  case lookupswitch dflt ps =>
    simp only [zP] at hP
    split at hP
    · split at hP
      · rename_i hc
        obtain ⟨h1, rfl, rfl⟩ := zgo_ok hP
        exact lv_lookup hx hb hd hc rfl h1 (k ls hl hnl)
      · cases hP
    · cases hP
  case ldc idx =>
    obtain rfl := zlk hlen rfl
    simp only [zP] at hP
    split at hP
    · rename_i v hv
      cases hP
      exact lv_ldc hx hb hown (hts _ (zint_ok hv)) hd (k ls hl hnl)
    · cases hP
  case ldc_w idx =>
    obtain rfl := zlk hlen rfl
    simp only [zP] at hP
    split at hP
    · rename_i v hv
      cases hP
      exact lv_ldcw hx hb hown (hts _ (zint_ok hv)) hd (k ls hl hnl)
    · cases hP
  all_goals cases hP
end ZP
