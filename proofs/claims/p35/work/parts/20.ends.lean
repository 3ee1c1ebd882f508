theorem zfe_ok {j pc : Nat} {i : Instr} {len : Nat} {q : zMt} (h : zfe j pc = some (i, len)) (hq : zent j = some q) : decode q.2.1 pc = .ok (i, len) ∧ (zsw i = true ∨ zlen i = len) := by
  have hall : ∀ c, c < 13 → ∀ q ∈ zmc c, zkall q.2.1 q.2.2.2.2.2 = true := by
    intro c hc
    match c, hc with
    | 0, _ => exact zdc_0
    | 1, _ => exact zdc_1
    | 2, _ => exact zdc_2
    | 3, _ => exact zdc_3
    | 4, _ => exact zdc_4
    | 5, _ => exact zdc_5
    | 6, _ => exact zdc_6
    | 7, _ => exact zdc_7
    | 8, _ => exact zdc_8
    | 9, _ => exact zdc_9
    | 10, _ => exact zdc_10
    | 11, _ => exact zdc_11
    | 12, _ => exact zdc_12
    | k + 13, h => exact absurd h (by omega)
  unfold zfe at h
  rw [hq] at h
  have h1 := hall (j / 200) (zent_lt hq) q (List.mem_of_getElem? hq)
  have h2 := List.all_eq_true.mp h1 _ (zlk_of (β := Unit) h)
  simp only [Bool.and_eq_true, decide_eq_true_eq, Bool.or_eq_true, beq_iff_eq] at h2
  exact h2
theorem zDs_tab : ∀ w ∈ zDs, w.onTables = true := by decide +kernel
section ZX
variable {p : Program} {l : Launch} {e : Env} {R : Room} {s : State} {m : MethodId} {args : Array Value} {below : List Frame} {meth : Method} {c : Code} {H : Heap} {locs : List Loc} {cells slots : Nat} {G : zG} {cc : ByteArray} {ls : Array Slot} {pc : Nat} {σ : Nat → Nat × (Nat → Int32)} {cn : Nat} {st : List Value} {M : zMem} {mc ms : Nat}
theorem zF_of {t : State} (hS : va_S (zA G) s.heap H locs) (ht : t.heap = H) : va_F (zA G) s t := ⟨by rw [ht]; exact hS.1, fun q h1 h2 => by rw [ht]; exact hS.2.1 q h1 h2⟩
theorem zret_ok {j : Nat} {q : zMt} {i : Instr} {len : Nat} {v : Option Value} {XC : String → State → State → Prop} (B : zBd p s m args c cc cn G σ) (hq : zent j = some q) (hr : meth.sig.returnType = q.2.2.2.1) (hlocks : meth.locks = false) (hd : decode cc pc = .ok (i, len)) (hlen : zsw i = true ∨ zlen i = len) (hret : zret j i st = some v) (hR : zRel G M H) (hS : va_S (zA G) s.heap H locs) (hc : cells ≤ mc) (hs : slots ≤ ms) :
    W p l e R s m args below meth c H locs cells slots (vx_MQ below (zQc G (.inl v) M) XC args s mc ms (zA G)) (F0 m pc ls (st.map (zcv G))) := by
  obtain ⟨hx, hb, -⟩ := B
  refine W.widen (k := mc) (n := ms) hc hs (vx_ret ?_)
  unfold zret at hret
  rw [hq] at hret
  dsimp only at hret
  cases i
  case ireturn =>
    obtain rfl := zlk hlen rfl
    dsimp only at hret
    split at hret
    · rename_i x
      split at hret
      · rename_i hty
        cases hret
        exact W.iret hx hb (hr.trans hty) (fun t ht _ => ⟨rfl, by rw [ht]; exact hR, zF_of hS ht⟩) hS.2.2 hd hlocks
      · rename_i hty
        split at hret
        · rename_i h01
          cases hret
          exact W.zret hx hb (hr.trans hty) (zbool_ok h01).1 (fun t ht _ => ⟨rfl, by rw [ht]; exact hR, zF_of hS ht⟩) hS.2.2 hd hlocks
        · cases hret
      · cases hret
    · cases hret
  case areturn =>
    obtain rfl := zlk hlen rfl
    dsimp only at hret
    split at hret
    · rename_i a
      split at hret
      · rename_i n hty
        cases hret
        exact W.aret hx hb (hr.trans hty) (Or.inl ⟨_, rfl⟩) (Or.inr ⟨_, rfl⟩) (fun t ht _ => ⟨rfl, by rw [ht]; exact hR, zF_of hS ht⟩) hS.2.2 hd hlocks
      · cases hret
    · cases hret
  case return_ =>
    obtain rfl := zlk hlen rfl
    dsimp only at hret
    split at hret
    · split at hret
      · rename_i hty
        cases hret
        exact W.vret hx hb (hr.trans hty) (fun t ht _ => ⟨rfl, by rw [ht]; exact hR, zF_of hS ht⟩) hS.2.2 hd hlocks
      · cases hret
    · cases hret
  all_goals cases hret
theorem zw_thM : zw G (zthM M) = zw G M := rfl
theorem zrel_grow {H1 : Heap} (hR : zRel G M H) (ho : ∀ q : Nat, q < H.size → H1[q]? = H[q]?) : zRel G (zthM M) H1 := ⟨hR.1.kept (fun k x hx => ho x.1 ((hR.1 k x hx).lt)), hR.2⟩
theorem zthr_ok {j e0 : Nat} {q : zMt} {Qc : Array Value → State → Outcome → State → Prop} (hl : l.stackTraces = false) (B : zBd p s m args c q.2.1 (j / 200) G σ) (hq : zent j = some q) (hNC : zNC s) (hlocks : meth.locks = false) (hls : ls.size = c.maxLocals) (hno : ∀ x ∈ c.exceptionTable.toList, False) (ht : zthr j pc = some e0) (hsum : zsum st ≤ 8) (hR : zRel G M H) (hS : va_S (zA G) s.heap H locs) (hRf : 8 ≤ R.frames) (hRl : 200 ≤ R.locals) (hRc : cells + 1 ≤ R.cells) (hRs : slots + 6 ≤ R.slots) (hc : cells + 1 ≤ mc) (hs : slots + 6 ≤ ms) :
    W p l e R s m args below meth c H locs cells slots (vx_MQ below Qc (zXc G (.inr e0) (zthM M)) args s mc ms (zA G)) (F0 m pc ls (st.map (zcv G))) := by
  obtain ⟨hx, hb, hown, hts, hK, hbs, hE⟩ := B
  unfold zthr at ht
  cases hf : zth.find? (fun t => t.1 == j && t.2.1 == pc) with
  | none => rw [hf] at ht; cases ht
  | some t =>
    rw [hf] at ht
    have ht : t.2.2.1 = e0 := Option.some.inj ht
    have hm := List.mem_of_find?_eq_some hf
    have hp := List.find?_some hf
    simp only [Bool.and_eq_true, beq_iff_eq] at hp
    obtain ⟨t1, t2, t3, ik, is, ic, w, ns⟩ := t
    obtain ⟨rfl, rfl⟩ := hp
    dsimp only at ht
    subst ht
    have hk := zthc_ok _ hm
    unfold zthc at hk
    simp only [Bool.and_eq_true, Bool.or_eq_true, beq_iff_eq, decide_eq_true_eq] at hk
    obtain ⟨⟨⟨⟨⟨c1, c2⟩, c3⟩, c4⟩, c5⟩, c6⟩ := hk
    have hown8 : s.vm.findClass RX8 = some m.cls := by rw [c1] at hown; exact hown
    have hX : ∀ t : State, s.vm.Alike t.vm → H.size ≤ t.heap.size → (∀ q : Nat, q < H.size → t.heap[q]? = H[q]?) → zXc G (.inr t3) (zthM M) (zex t3) s t := fun t _ h1 h2 => ⟨rfl, zrel_grow hR h2, Nat.le_trans hS.1 h1, fun q g1 g2 => (h2 q (Nat.lt_of_lt_of_le g1 hS.1)).trans (hS.2.1 q g1 g2)⟩
    have hsm : ((st.map (zcv G)).map fun v => v.category).sum + (13 * (znm.length + 1) + 43) ≤ R.locals := by
      rw [zsum_map]
      show _ + (13 * (2 + 1) + 43) ≤ _
      omega
    cases hz : zstr[ns]? with
    | none => rw [hz] at c5; cases c5
    | some zq =>
      rw [hz] at c5
      simp only [Bool.and_eq_true, beq_iff_eq] at c5
      have hstr := hE.2.2.1 ns zq hz
      rw [c5.1, c5.2] at hstr
      by_cases hE1 : zthE t3 ik ic = true
      · obtain ⟨w1, w2, w3, w4, w5⟩ := zth_words hE1
        have hat : ∀ w ∈ vx_atS RX8 ic (zex t3) znm, w.before args s = true := fun w hw => (w1 w hw).elim (fun h => hts w h) (fun h => (List.mem_append.mp h).elim (fun h => va_Nw.use (zNs_tab w h) (hE.2.2.2.1 w h)) (fun h => va_Nw.use (zDs_tab w h) (hNC.2 w h)))
        match w, c6 with
        | 0, c6 =>
          simp only [Bool.and_eq_true, decide_eq_true_eq] at c6
          exact vx_throwS hx hb hl (names := znm) hown8 w5 znm_fit (hts _ w3) (hts _ w4) hstr hat w2 hE.1 hE.2.1 hS hls (zfe_ok c3 hq).1 (zfe_ok c4 hq).1 (zfe_ok c6.1.1 hq).1 (zfe_ok c6.1.2 hq).1 (zfe_ok c6.2 hq).1 (fun x hx => absurd hx (fun h => hno x h)) (by show 2 + 3 < _; omega) hsm hRc hRs hlocks hX hS.2.2 hc hs
        | w + 1, c6 =>
          simp only [Bool.and_eq_true, decide_eq_true_eq] at c6
          exact vx_throwSW hx hb hl (names := znm) hown8 w5 znm_fit (hts _ w3) (hts _ w4) hstr hat w2 hE.1 hE.2.1 hS hls (zfe_ok c3 hq).1 (zfe_ok c4 hq).1 (zfe_ok c6.1.1 hq).1 (zfe_ok c6.1.2 hq).1 (zfe_ok c6.2 hq).1 (fun x hx => absurd hx (fun h => hno x h)) (by show 2 + 3 < _; omega) hsm hRc hRs hlocks hX hS.2.2 hc hs
      · have hN1 : t3 = 1 ∧ ik = 131 ∧ ic = 135 := by
          rcases c2 with h | h
          · exact absurd h hE1
          · exact ⟨h.1.1, h.1.2, h.2⟩
        obtain ⟨rfl, rfl, rfl⟩ := hN1
        have hat : ∀ w ∈ zNA, w.before args s = true := fun w hw => (zNall w hw).elim (fun h => hts w h) (fun h => (List.mem_append.mp h).elim (fun h => va_Nw.use (zNs_tab w h) (hE.2.2.2.1 w h)) (fun h => va_Nw.use (zDs_tab w h) (hNC.2 w h)))
        have hg : ∀ w ∈ Cond.classLink RX8 131 "java/util/NoSuchElementException" :: Cond.initialized "java/util/NoSuchElementException" :: zNA, vx_ot w = true := fun w hw => List.all_eq_true.mp zNg w hw
        have hk1 : (Cond.classLink RX8 131 "java/util/NoSuchElementException").before args s = true := hts _ (List.mem_filter.mpr ⟨zNk2.1, rfl⟩)
        have hk2 : (Cond.initialized "java/util/NoSuchElementException").before args s = true := hts _ (List.mem_filter.mpr ⟨zNk2.2.1, rfl⟩)
        have hfin : ∀ (pc9 : Nat) (q9 : Nat) (H1 : Heap) (ce : Cell), zfe t1 pc9 = some (.athrow, 1) → H1[q9]? = some ce → ce.vm = .none → s.vm.findClass "java/util/NoSuchElementException" = some ce.cls → H.size ≤ H1.size → (∀ x : Nat, x < H.size → H1[x]? = H[x]?) → va_S (zA G) s.heap H1 locs → W p l e R s m args below meth c H1 locs (cells + 1) (slots + 6) (vx_MQ below Qc (zXc G (.inr 1) (zthM M)) args s mc ms (zA G)) (F0 m pc9 ls (.ref q9 :: st.map (zcv G))) := by
          intro pc9 q9 H1 ce d9 g1 g2 g3 g4 g5 g6
          exact vx_athrow hx hb (zfe_ok d9 hq).1 (vx_out (fun x hx => absurd hx (fun h => hno x h)) hlocks g1 g2 g3 (fun t ht ha => hX t ha (by rw [ht]; exact g4) (fun q h => by rw [ht]; exact g5 q h)) g6.2.2 hc hs)
        match w, c6 with
        | 0, c6 =>
          simp only [Bool.and_eq_true, decide_eq_true_eq] at c6
          exact zmakeX hx hb hl zNx0 zNx1 zNx2 zNx5 hown8 zNk2.2.2 znm_fit hk1 hk2 hstr hat hg hE.1 hE.2.1 hS hls (zfe_ok c3 hq).1 (zfe_ok c4 hq).1 (zfe_ok c6.1.1 hq).1 (zfe_ok c6.1.2 hq).1 (by show 2 + 3 < _; omega) hsm hRc hRs (fun q9 H1 ce => hfin (t2 + 9) q9 H1 ce c6.2)
        | w + 1, c6 =>
          simp only [Bool.and_eq_true, decide_eq_true_eq] at c6
          exact zmakeXW hx hb hl zNx0 zNx1 zNx2 zNx5 hown8 zNk2.2.2 znm_fit hk1 hk2 hstr hat hg hE.1 hE.2.1 hS hls (zfe_ok c3 hq).1 (zfe_ok c4 hq).1 (zfe_ok c6.1.1 hq).1 (zfe_ok c6.1.2 hq).1 (by show 2 + 3 < _; omega) hsm hRc hRs (fun q9 H1 ce => hfin (t2 + 10) q9 H1 ce c6.2)
end ZX
