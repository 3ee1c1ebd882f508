/-! what is caught in the law's own small methods -/
noncomputable def zhdc (t : Nat × Nat × Nat × Nat × Nat × Nat × Nat × Nat) : Bool := match zent t.1 with
  | some q => (t.1 / 200 == 10) && Nat.blt t.2.2.1 5 && decide (q.2.2.2.1 = some .int) && Nat.blt t.2.2.2.2.2.2.2 q.2.2.1 && decide (Cond.castable (zex t.2.2.1) (zex t.2.2.1) ∈ zNs) &&
    (match t.2.2.2.2.1, q.2.2.2.2.1 with
    | 0, (a, b, h, ct) :: _ => Nat.ble a t.2.1 && Nat.blt t.2.1 b && h == t.2.2.2.2.2.1 && ct != 0 && decide (Cond.classLink RL ct (zex t.2.2.1) ∈ lw_tbl)
    | 1, (_, _, _, ct0) :: (a, b, h, ct) :: _ => Nat.ble a t.2.1 && Nat.blt t.2.1 b && h == t.2.2.2.2.2.1 && ct != 0 && decide (Cond.classLink RL ct (zex t.2.2.1) ∈ lw_tbl) && ct0 != 0 && (List.range 5).any (fun e => e != t.2.2.1 && decide (Cond.classLink RL ct0 (zex e) ∈ lw_tbl))
    | _, _ => false) &&
    (match t.2.2.2.2.2.2.1 with
    | 0 => decide (zfe t.1 t.2.2.2.2.2.1 = some (.astore t.2.2.2.2.2.2.2, 2)) && decide (zfe t.1 (t.2.2.2.2.2.1 + 2) = some (.iconst t.2.2.2.1, 1)) && decide (zfe t.1 (t.2.2.2.2.2.1 + 3) = some (.ireturn, 1))
    | _ => match zfe t.1 t.2.2.2.2.2.1 with
      | some (.astore_n k, 1) => k.val == t.2.2.2.2.2.2.2 && decide (zfe t.1 (t.2.2.2.2.2.1 + 1) = some (.iconst t.2.2.2.1, 1)) && decide (zfe t.1 (t.2.2.2.2.2.1 + 2) = some (.ireturn, 1))
      | _ => false)
  | none => false
theorem zhdc_ok : ∀ t ∈ zhd, zhdc t = true := List.all_eq_true.mp (show zhd.all zhdc = true by decide +kernel)
noncomputable def zmpl (c : Nat) (e : Nat × Nat × Nat × Nat) : Bool := match e.2.1 with
  | 0 | 2 | 3 => match zent e.2.2.1 with
    | some q => Nat.ble (zna e.2.2.1 + 1) q.2.2.1
    | none => false
  | 1 => match zent e.2.2.1 with
    | some q => Nat.ble (zna e.2.2.1) q.2.2.1
    | none => false
  | _ => true
theorem zmpl_all : (List.range 13).all (fun c => (zmp c).all (zmpl c)) = true := by decide +kernel
theorem zmpl_ok {c : Nat} {e : Nat × Nat × Nat × Nat} (h : e ∈ zmp c) : zmpl c e = true := by
  have hc : c < 13 := by
    apply Nat.lt_of_not_le
    intro hc
    rw [zmp_ge hc] at h
    cases h
  exact List.all_eq_true.mp (List.all_eq_true.mp zmpl_all c (List.mem_range.mpr hc)) e h
theorem zcall_len {cn : Nat} {i : Instr} {st : List Value} {M : zMem} {j' : Nat} {as rest : List Value} (hcall : zcall cn i st M = some (j', as, rest)) {q : zMt} (hq : zent j' = some q) : as.length ≤ q.2.2.1 := by
  unfold zcall at hcall
  cases i
  case invokevirtual idx =>
    dsimp only at hcall
    split at hcall
    · rename_i j pl hl
      split at hcall
      · rename_i j2 b as2 r2 hsp
        obtain ⟨rfl, hst, hlen2, hsum, hcat⟩ := zsp_ok hsp
        split at hcall
        · rw [cond_eq_ite] at hcall
          split at hcall
          · cases hcall
            have h1 := zmpl_ok (zlk_of (β := Unit) hl)
            simp only [zmpl, hq] at h1
            rw [hlen2]; exact zble h1
          · cases hcall
        · cases hcall
      · cases hcall
    · cases hcall
  case invokestatic idx =>
    dsimp only at hcall
    split at hcall
    · rename_i j pl hl
      rw [cond_eq_ite] at hcall
      split at hcall
      · obtain ⟨rfl, hst, hlen2, hsum, hcat⟩ := zsp_ok hcall
        have h1 := zmpl_ok (zlk_of (β := Unit) hl)
        simp only [zmpl, hq] at h1
        rw [hlen2]; exact zble h1
      · cases hcall
    · cases hcall
  case invokespecial idx =>
    dsimp only at hcall
    split at hcall
    · rename_i j pl hl
      split at hcall
      · rename_i j2 b as2 r2 hsp
        obtain ⟨rfl, hst, hlen2, hsum, hcat⟩ := zsp_ok hsp
        cases hcall
        have h1 := zmpl_ok (zlk_of (β := Unit) hl)
        simp only [zmpl, hq] at h1
        rw [hlen2]; exact zble h1
      · cases hcall
    · rename_i j pl hl
      split at hcall
      · rename_i j2 b as2 r2 hsp
        obtain ⟨rfl, hst, hlen2, hsum, hcat⟩ := zsp_ok hsp
        cases hcall
        have h1 := zmpl_ok (zlk_of (β := Unit) hl)
        simp only [zmpl, hq] at h1
        rw [hlen2]; exact zble h1
      · cases hcall
    · cases hcall
  all_goals cases hcall
theorem zofI (a : Nat) : Int32.ofInt (a : Int) = Int32.ofNat a := by first | rfl | exact Int32.ofInt_natCast a | simp
section ZY
variable {p : Program} {l : Launch} {e : Env} {R : Room} {s : State} {m : MethodId} {args : Array Value} {below : List Frame} {meth : Method} {c : Code} {H : Heap} {locs : List Loc} {cells slots : Nat} {G : zG} {ls : Array Slot} {pc : Nat} {σ : Nat → Nat × (Nat → Int32)} {M : zMem} {mc ms : Nat}
theorem zcatch {j e0 a : Nat} {q : zMt} {XC : String → State → State → Prop} {rest : List Value} {lw : List (Nat × Value)} {q9 : Addr} {ce : Cell} (hh : zhnd j pc e0 = some a) (hq : zent j = some q) (B : zBd p s m args c q.2.1 (j / 200) G σ) (hNC : zNC s) (hr : meth.sig.returnType = q.2.2.2.1) (hlocks : meth.locks = false) (htab : c.exceptionTable.toList = tableOf q.2.2.2.2.1) (hlv : lv_has ls q.2.2.1 lw) (hR : zRel G M H) (hS : va_S (zA G) s.heap H locs) (hc : cells ≤ mc) (hs : slots ≤ ms)
    (hcell : H[q9]? = some ce) (hv : ce.vm = .none) (hcl : s.vm.findClass (zex e0) = some ce.cls) :
    vx_W p l e R s m args below meth c H locs cells slots (vx_MQ below (zQc G (.inl (some (.int (Int32.ofNat a)))) M) XC args s mc ms (zA G)) (F0 m pc ls rest) q9 := by
  obtain ⟨hx, hb, hown, hts, hK, hbs, hE⟩ := B
  unfold zhnd at hh
  cases hf : zhd.find? (fun t => t.1 == j && t.2.1 == pc && t.2.2.1 == e0) with
  | none => rw [hf] at hh; cases hh
  | some t =>
    rw [hf] at hh
    have hh : t.2.2.2.1 = a := Option.some.inj hh
    have hm := List.mem_of_find?_eq_some hf
    have hp := List.find?_some hf
    simp only [Bool.and_eq_true, beq_iff_eq] at hp
    obtain ⟨t1, t2, t3, t4, n, h, w, k⟩ := t
    obtain ⟨⟨rfl, rfl⟩, rfl⟩ := hp
    dsimp only at hh
    subst hh
    have hk := zhdc_ok _ hm
    unfold zhdc at hk
    simp only [hq, Bool.and_eq_true, beq_iff_eq, decide_eq_true_eq] at hk
    obtain ⟨⟨⟨⟨⟨⟨c1, c2⟩, c3⟩, c4⟩, c5⟩, c6⟩, c7⟩ := hk
    have hown10 : s.vm.findClass RL = some m.cls := by rw [c1] at hown; exact hown
    have hcast : (Cond.castable (zex t3) (zex t3)).before args s = true := va_Nw.use rfl (hE.2.2.2.1 _ c5)
    have hend : ∀ ls' : Array Slot, ∀ pc1 : Nat, zfe t1 pc1 = some (.iconst t4, 1) → zfe t1 (pc1 + 1) = some (.ireturn, 1) → W p l e R s m args below meth c H locs cells slots (vx_MQ below (zQc G (.inl (some (.int (Int32.ofNat t4)))) M) XC args s mc ms (zA G)) (F0 m pc1 ls' []) := by
      intro ls' pc1 d1 d2
      refine lv_iconst (v := Int32.ofNat t4) hx hb (zfe_ok d1 hq).1 (zofI t4) ?_
      refine W.widen (k := mc) (n := ms) hc hs (vx_ret ?_)
      exact W.iret hx hb (hr.trans c3) (fun t ht _ => ⟨rfl, by rw [ht]; exact hR, zF_of hS ht⟩) hS.2.2 (zfe_ok d2 hq).1 hlocks
    have hkk : W p l e R s m args below meth c H locs cells slots (vx_MQ below (zQc G (.inl (some (.int (Int32.ofNat t4)))) M) XC args s mc ms (zA G)) (F0 m h ls [.ref q9]) := by
      match w, c7 with
      | 0, c7 =>
        simp only [Bool.and_eq_true, decide_eq_true_eq] at c7
        exact lv_astore hx hb (zfe_ok c7.1.1 hq).1 hlv (zblt c4) rfl (fun ls' _ => hend ls' (h + 2) c7.1.2 c7.2)
      | w + 1, c7 =>
        split at c7
        · rename_i hz
          exact absurd hz (Nat.succ_ne_zero _)
        · split at c7
          · rename_i kf hzf
            simp only [Bool.and_eq_true, beq_iff_eq, decide_eq_true_eq] at c7
            exact lv_astore_n hx hb (zfe_ok hzf hq).1 c7.1.1 hlv (zblt c4) rfl (fun ls' _ => hend ls' (h + 1) c7.1.2 c7.2)
          · cases c7
    match n, hhh : q.2.2.2.2.1, c6 with
    | 0, (a, b, h2, ct) :: tl, c6 =>
      simp only [Bool.and_eq_true, beq_iff_eq, decide_eq_true_eq, bne_iff_ne] at c6
      obtain ⟨⟨⟨⟨g1, g2⟩, g3⟩, g4⟩, g5⟩ := c6
      subst g3
      exact vx_catch (own := RL) (name := zex t3) hown10 [] ⟨a, b, h2, ct⟩ (tableOf tl) (by rw [htab, hhh]; rfl) (fun z hz => nomatch hz) (by show (decide (a ≤ t2) && decide (t2 < b)) = true; rw [decide_eq_true (zble g1), decide_eq_true (zblt g2)]; rfl) g4 (hts _ (List.mem_filter.mpr ⟨g5, rfl⟩)) hcast hcell hv hcl hkk
    | 1, (a0, b0, h0, ct0) :: (a, b, h2, ct) :: tl, c6 =>
      simp only [Bool.and_eq_true, beq_iff_eq, decide_eq_true_eq, bne_iff_ne, List.any_eq_true] at c6
      obtain ⟨⟨⟨⟨⟨⟨g1, g2⟩, g3⟩, g4⟩, g5⟩, g6⟩, e1, g7, g8, g9⟩ := c6
      subst g3
      exact vx_catch (own := RL) (name := zex t3) hown10 [⟨a0, b0, h0, ct0⟩] ⟨a, b, h2, ct⟩ (tableOf tl) (by rw [htab, hhh]; rfl) (fun z hz => by
          cases List.mem_singleton.mp hz
          exact Or.inr ⟨g6, zex e1, hts _ (List.mem_filter.mpr ⟨g9, rfl⟩), hNC.1 t3 e1 (zblt c2) (List.mem_range.mp g7) (fun h => g8 h.symm)⟩) (by show (decide (a ≤ t2) && decide (t2 < b)) = true; rw [decide_eq_true (zble g1), decide_eq_true (zblt g2)]; rfl) g4 (hts _ (List.mem_filter.mpr ⟨g5, rfl⟩)) hcast hcell hv hcl hkk
end ZY
