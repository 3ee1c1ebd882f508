section ZZ
variable {l : Launch} {G : zG} {σ : Nat → Nat × (Nat → Int32)}
/-- a run of the small machine from any place of a body is one of the machine -/
noncomputable def zPn (l : Launch) (G : zG) (σ : Nat → Nat × (Nat → Int32)) (n : Nat) : Prop := ∀ (d j pc : Nat) (lv : zLv) (st : List Value) (M : zMem) (o : zO) (M' : zMem), zrun σ n d j pc lv st M = some (o, M') →
  ∀ (p : Program) (e : Env) (R : Room) (s : State) (m : MethodId) (args : Array Value) (below : List Frame) (meth : Method) (c : Code) (H : Heap) (locs : List Loc) (cells slots : Nat) (ls : Array Slot) (Q : State → Prop) (q : zMt), zent j = some q → zBd p s m args c q.2.1 (j / 200) G σ → zNC s → c.maxLocals = q.2.2.1 → meth.sig.returnType = q.2.2.2.1 → meth.locks = false → (zini j = true → meth.name = "<init>") → d + 8 ≤ R.frames → 40 * d + 200 ≤ R.locals → lv_has ls q.2.2.1 (zlv G lv) → lv.length = q.2.2.1 → zRel G M H → va_S (zA G) s.heap H locs → (M.2.2.2.1 = true → s.heap.size + cells ≤ G.2.2.1 + M.1.length) → cells + M'.2.2.2.2.1 ≤ R.cells + M.2.2.2.2.1 → slots + M'.2.2.2.2.2 ≤ R.slots + M.2.2.2.2.2 →
    ((Q = vx_MQ below (zQc G o M') (zXc G o M') args s R.cells R.slots (zA G) ∧ c.exceptionTable.toList = tableOf q.2.2.2.2.1) ∨ ((∃ v, o = .inl v) ∧ ∀ pc e0, zhnd j pc e0 = none)) →
    (∀ (v : Option Value), o = .inl v → ∀ (pc' : Nat) (i : Instr) (len : Nat) (st' : List Value) (H' : Heap) (locs' : List Loc) (cells' slots' : Nat) (ls' : Array Slot), zfe j pc' = some (i, len) → zret j i st' = some v → zRel G M' H' → va_S (zA G) s.heap H' locs' → cells' ≤ R.cells → slots' ≤ R.slots → W p l e R s m args below meth c H' locs' cells' slots' Q (F0 m pc' ls' (st'.map (zcv G)))) →
    W p l e R s m args below meth c H locs cells slots Q (F0 m pc ls (st.map (zcv G)))
theorem zlv_args {as : List Value} (hcat : ∀ v ∈ as, v.category = 1) : ∀ (k j : Nat) (v : Value), as[j]? = some v → (k + j, zcv G v) ∈ lv_args k (as.map (zcv G)) := by
  induction as with
  | nil => intro k j v h; simp at h
  | cons a t ih =>
    intro k j v h
    cases j with
    | zero =>
      cases h
      exact List.mem_cons_self
    | succ j =>
      have h1 : t[j]? = some v := h
      have h2 := ih (fun v hv => hcat v (List.mem_cons_of_mem _ hv)) (k + 1) j v h1
      have hc : (zcv G a).category = 1 := by rw [zcv_cat]; exact hcat a List.mem_cons_self
      show (k + (j + 1), zcv G v) ∈ (k, zcv G a) :: lv_args (if (zcv G a).category = 2 then k + 2 else k + 1) (t.map (zcv G))
      rw [if_neg (by rw [hc]; decide), show k + (j + 1) = k + 1 + j by omega]
      exact List.mem_cons_of_mem _ h2
theorem zlg_len {as : List Value} (hcat : ∀ v ∈ as, v.category = 1) : (lg_sl (as.map (zcv G))).length = as.length := by
  induction as with
  | nil => rfl
  | cons a t ih =>
    have hc : (zcv G a).category = 1 := by rw [zcv_cat]; exact hcat a List.mem_cons_self
    have h2 := ih (fun v hv => hcat v (List.mem_cons_of_mem _ hv))
    unfold lg_sl at h2 ⊢
    rw [List.map_cons, List.flatMap_cons, if_neg (by rw [hc]; decide), List.length_append, h2]
    simp; omega
theorem zentry {j : Nat} {q : zMt} {as : List Value} (hq : zent j = some q) (hcat : ∀ v ∈ as, v.category = 1) (hlen : as.length ≤ q.2.2.1) (m : MethodId) : ∃ ls : Array Slot, entryFrame m (as.map (zcv G)).toArray q.2.2.1 = F0 m 0 ls [] ∧ lv_has ls q.2.2.1 (zlv G (zarg j as)) ∧ (zarg j as).length = q.2.2.1 := by
  refine ⟨_, lg_entry_eq m (as.map (zcv G)) q.2.2.1, ?_, ?_⟩
  · have hl := lv_entry (as.map (zcv G)) (n := q.2.2.1) (by rw [zlg_len hcat]; exact hlen)
    refine ⟨hl.1, hl.2.1, fun x hx => hl.2.2 x ?_⟩
    obtain ⟨k, w⟩ := x
    obtain ⟨v, h1, h2, rfl⟩ := zlv_mem.mp hx
    have h3 : (as.map some ++ List.replicate (q.2.2.1 - as.length) none)[k]? = some (some v) := by
      have : zarg j as = as.map some ++ List.replicate (q.2.2.1 - as.length) none := by unfold zarg; rw [hq]
      rw [← this]; exact h1
    have h4 : as[k]? = some v := by
      by_cases hk : k < as.length
      · rw [List.getElem?_append_left (by simp; exact hk), List.getElem?_map] at h3
        cases h5 : as[k]? with
        | none => rw [h5] at h3; cases h3
        | some x => rw [h5] at h3; cases h3; rfl
      · rw [List.getElem?_append_right (by simp; omega), List.getElem?_replicate] at h3
        split at h3 <;> cases h3
    have h5 := zlv_args (G := G) hcat 0 k v h4
    rw [Nat.zero_add] at h5
    exact h5
  · unfold zarg
    rw [hq]
    simp
    omega
theorem zmet {n : Nat} (hP : zPn l G σ n) {d j : Nat} {as : List Value} {M M' : zMem} {o : zO} {q : zMt} (hrun : zrun σ n d j 0 (zarg j as) [] M = some (o, M')) (hq : zent j = some q) (hj : j ≠ 2024) (hj2 : j < 2400) (hcat : ∀ v ∈ as, v.category = 1) (hlen : as.length ≤ q.2.2.1) :
    vx_Met l q.1 (zcw q :: zWs) (zrm d (M'.2.2.2.2.1 - M.2.2.2.2.1) (M'.2.2.2.2.2 - M.2.2.2.2.2)) (zPc G σ as M) (zQc G o M') (zXc G o M') (M'.2.2.2.2.1 - M.2.2.2.2.1) (M'.2.2.2.2.2 - M.2.2.2.2.2) (zA G) := by
  obtain ⟨a1, a2, a3, a4, a5, a6, a7, a8⟩ := zmt_all hq hj hj2
  obtain ⟨b1, b2, b3⟩ := zrun_le _ _ _ _ _ _ _ _ _ hrun
  have body : ∀ p e s m args below meth c s₁, BodyLoose p l q.1 (headSpec (zcw q :: zWs) (zrm d (M'.2.2.2.2.1 - M.2.2.2.2.1) (M'.2.2.2.2.2 - M.2.2.2.2.2))) q.2.1 q.2.2.1 q.2.2.2.1 e s m args below meth c s₁ → c.maxLocals = q.2.2.1 → c.exceptionTable.toList = tableOf q.2.2.2.2.1 → zPc G σ as M args s →
      W p l e (headSpec (zcw q :: zWs) (zrm d (M'.2.2.2.2.1 - M.2.2.2.2.1) (M'.2.2.2.2.2 - M.2.2.2.2.2))).room s m args below meth c s.heap [] 0 0 (vx_MQ below (zQc G o M') (zXc G o M') args s (M'.2.2.2.2.1 - M.2.2.2.2.1) (M'.2.2.2.2.2 - M.2.2.2.2.2) (zA G)) (entryFrame m args q.2.2.1) := by
    intro p e s m args below meth c s₁ B hml htab hv
    obtain ⟨rfl, hR, hK, hE, hNC, hbs, hX⟩ := hv
    obtain ⟨ls, he, hlv, hnl⟩ := zentry (G := G) hq hcat hlen m
    rw [he]
    have hts := atoms_spec (ws := zcw q :: zWs) B.pre
    have hown : s.vm.findClass (zcn (j / 200)) = some m.cls := by rw [← a1]; exact findClass_of_methodNamed B.named
    have hBd : zBd p s m (as.map (zcv G)).toArray c q.2.1 (j / 200) G σ := ⟨B.exec, B.bytes, hown, fun w hw => hts w (List.mem_cons_of_mem _ hw), hK, hbs, hE⟩
    have hin : zini j = true → meth.name = "<init>" := fun hi => (name_of_methodNamed B.named B.method).1.trans (a8 hi)
    refine hP d j 0 (zarg j as) [] M o M' hrun p e _ s m _ below meth c s.heap [] 0 0 ls _ q hq hBd hNC hml B.returns B.notSynchronized hin (Nat.le_refl _) (Nat.le_refl _) hlv hnl hR va_S.rf (fun h => by have := hX h; omega) ?_ ?_ (Or.inl ⟨rfl, htab⟩) ?_
    · show 0 + M'.2.2.2.2.1 ≤ M'.2.2.2.2.1 - M.2.2.2.2.1 + M.2.2.2.2.1
      omega
    · show 0 + M'.2.2.2.2.2 ≤ M'.2.2.2.2.2 - M.2.2.2.2.2 + M.2.2.2.2.2
      omega
    · rintro v rfl pc' i len st' H' locs' cells' slots' ls' hfe hret hR' hS' hc' hs'
      obtain ⟨hd, hlen9⟩ := zfe_ok hfe hq
      exact zret_ok hBd hq B.returns B.notSynchronized hd hlen9 hret hR' hS' hc' hs'
  by_cases hh : q.2.2.2.2.1 = []
  · have hc : zcw q = Cond.code q.1 q.2.1 q.2.2.1 q.2.2.2.1 := by unfold zcw; rw [if_pos hh]
    refine vx_ofW (cc := q.2.1) (maxL := q.2.2.1) (ret := q.2.2.2.1) (ws' := zWs) a2 (by rw [hc]) ?_
    intro p e s m args below meth c s₁ B hml hno hv
    refine body p e s m args below meth c s₁ B hml ?_ hv
    rw [hh]
    show _ = []
    cases ht : c.exceptionTable.toList with
    | nil => rfl
    | cons x t => exact absurd (hno x (by rw [ht]; exact List.mem_cons_self)) id
  · have hc : zcw q = Cond.codeWith q.1 q.2.1 q.2.2.1 q.2.2.2.1 q.2.2.2.2.1 := by unfold zcw; rw [if_neg hh]
    refine vx_ofWH (cc := q.2.1) (maxL := q.2.2.1) (ret := q.2.2.2.1) (hh := q.2.2.2.2.1) (ws' := zWs) a2 (by rw [hc]) ?_
    intro p e s m args below meth c s₁ B hml hv
    refine body p e s m args below meth c s₁ B hml ?_ hv
    have hts := atoms_spec (ws := zcw q :: zWs) B.pre
    exact vx_table (x := q.1) B (by rw [← hc]; exact hts _ List.mem_cons_self)
end ZZ
