section ZYB
variable {ρ : Nat → Int32} {E : zyE} {c pc pc' : Nat} {lv lv' : zyLv} {st st' : List zyV} {lw : zLv} {w : List Value}
theorem zyldI_ok {k : Nat} (h : zyld true lv k pc st = some (pc', lv', st')) (hl : zyLR ρ lv lw) (hs : zyRs ρ st w) : ∃ lw' w', zldI lw k pc w = some (pc', lw', w') ∧ zyLR ρ lv' lw' ∧ zyRs ρ st' w' := by
  unfold zyld at h
  split at h
  · rename_i v hv
    obtain ⟨x, hx, hr⟩ := hl.2 k v hv
    dsimp only [cond_true] at h
    cases hi : zyI v with
    | false => rw [hi, cond_false] at h; cases h
    | true =>
      rw [hi, cond_true] at h
      cases h
      obtain ⟨y, rfl⟩ := zyI_ok hi hr
      exact ⟨lw, .int y :: w, by unfold zldI; rw [hx], hl, hr, hs⟩
  · cases h
theorem zyldA_ok {k : Nat} (h : zyld false lv k pc st = some (pc', lv', st')) (hl : zyLR ρ lv lw) (hs : zyRs ρ st w) : ∃ lw' w', zldA lw k pc w = some (pc', lw', w') ∧ zyLR ρ lv' lw' ∧ zyRs ρ st' w' := by
  unfold zyld at h
  split at h
  · rename_i v hv
    obtain ⟨x, hx, hr⟩ := hl.2 k v hv
    dsimp only [cond_false] at h
    cases hi : zyA v with
    | false => rw [hi, cond_false] at h; cases h
    | true =>
      rw [hi, cond_true] at h
      cases h
      obtain ⟨y, rfl⟩ := zyA_ok hi hr
      exact ⟨lw, .ref y :: w, by unfold zldA; rw [hx], hl, hr, hs⟩
  · cases h
theorem zystI_ok {k : Nat} (h : zyst true lv k pc st = some (pc', lv', st')) (hl : zyLR ρ lv lw) (hs : zyRs ρ st w) : ∃ lw' w', zstI lw k pc w = some (pc', lw', w') ∧ zyLR ρ lv' lw' ∧ zyRs ρ st' w' := by
  cases st with
  | nil => cases h
  | cons v r =>
    obtain ⟨z, s, rfl, h3, h4⟩ := zyRs_cons hs
    simp only [zyst, cond_true] at h
    cases hi : zyI v with
    | false => rw [hi, Bool.false_and, cond_false] at h; cases h
    | true =>
      rw [hi, Bool.true_and] at h
      cases hk : Nat.blt k lv.length with
      | false => rw [hk, cond_false] at h; cases h
      | true =>
        rw [hk, cond_true] at h
        cases h
        obtain ⟨y, rfl⟩ := zyI_ok hi h3
        have hk' : k < lw.length := by
          rw [← hl.1]; exact Nat.le_of_ble_eq_true hk
        exact ⟨_, _, by unfold zstI; dsimp only; rw [if_pos hk'], zyLR_set hl k h3, h4⟩
theorem zystA_ok {k : Nat} (h : zyst false lv k pc st = some (pc', lv', st')) (hl : zyLR ρ lv lw) (hs : zyRs ρ st w) : ∃ lw' w', zstA lw k pc w = some (pc', lw', w') ∧ zyLR ρ lv' lw' ∧ zyRs ρ st' w' := by
  cases st with
  | nil => cases h
  | cons v r =>
    obtain ⟨z, s, rfl, h3, h4⟩ := zyRs_cons hs
    simp only [zyst, cond_false] at h
    cases hi : zyA v with
    | false => rw [hi, Bool.false_and, cond_false] at h; cases h
    | true =>
      rw [hi, Bool.true_and] at h
      cases hk : Nat.blt k lv.length with
      | false => rw [hk, cond_false] at h; cases h
      | true =>
        rw [hk, cond_true] at h
        cases h
        obtain ⟨y, rfl⟩ := zyA_ok hi h3
        have hk' : k < lw.length := by
          rw [← hl.1]; exact Nat.le_of_ble_eq_true hk
        exact ⟨_, _, by unfold zstA; dsimp only; rw [if_pos hk'], zyLR_set hl k h3, h4⟩
theorem zytop_ok (f : Int32 → Int32 → Int32) (h : zytop pc lv st = some (pc', lv', st')) (hl : zyLR ρ lv lw) (hs : zyRs ρ st w) : ∃ lw' w', z2 f pc lw w = some (pc', lw', w') ∧ zyLR ρ lv' lw' ∧ zyRs ρ st' w' := by
  cases st with
  | nil => cases h
  | cons v r =>
    cases r with
    | nil => cases h
    | cons u r =>
      obtain ⟨z, s, rfl, h3, h4⟩ := zyRs_cons hs
      obtain ⟨y, s, rfl, h5, h6⟩ := zyRs_cons h4
      simp only [zytop] at h
      cases hb : (zyI v && zyI u) with
      | false => rw [hb, cond_false] at h; cases h
      | true =>
        rw [hb, cond_true] at h
        cases h
        rw [Bool.and_eq_true] at hb
        obtain ⟨a, rfl⟩ := zyI_ok hb.1 h3
        obtain ⟨b, rfl⟩ := zyI_ok hb.2 h5
        exact ⟨lw, _, rfl, hl, ⟨_, rfl⟩, h6⟩
theorem zyPs_ok {i : Instr} (hK : zyK ρ E) (h : zyPs E i pc lv st = some (pc', lv', st')) (hl : zyLR ρ lv lw) (hs : zyRs ρ st w) : ∃ lw' w', zP c i pc lw w = some (pc', lw', w') ∧ zyLR ρ lv' lw' ∧ zyRs ρ st' w' := by
  cases i
  case iload_n k => exact zyldI_ok h hl hs
  case iload k => exact zyldI_ok h hl hs
  case aload_n k => exact zyldA_ok h hl hs
  case aload k => exact zyldA_ok h hl hs
  case istore_n k => exact zystI_ok h hl hs
  case istore k => exact zystI_ok h hl hs
  case astore_n k => exact zystA_ok h hl hs
  case astore k => exact zystA_ok h hl hs
  case iinc k n =>
    simp only [zyPs] at h
    split at h
    · rename_i x hx
      cases h
      obtain ⟨y, hy, hr⟩ := hl.2 k _ hx
      have hr' : y = .int x := hr
      subst hr'
      exact ⟨_, _, by simp only [zP]; rw [hy], zyLR_set hl k rfl, hs⟩
    · cases h
  case dup =>
    cases st with
    | nil => cases h
    | cons v r =>
      obtain ⟨z, s, rfl, h3, h4⟩ := zyRs_cons hs
      simp only [zyPs] at h
      cases hb : (zyI v || zyA v) with
      | false => rw [hb, cond_false] at h; cases h
      | true =>
        rw [hb, cond_true] at h
        cases h
        exact ⟨lw, z :: z :: s, by simp only [zP]; rw [if_pos (zyIA_ok hb h3)], hl, h3, h3, h4⟩
  case dup2 =>
    cases st with
    | nil => cases h
    | cons v r =>
      cases r with
      | nil => cases h
      | cons u r =>
        obtain ⟨z, s, rfl, h3, h4⟩ := zyRs_cons hs
        obtain ⟨y, s, rfl, h5, h6⟩ := zyRs_cons h4
        simp only [zyPs] at h
        cases hb : ((zyI v || zyA v) && (zyI u || zyA u)) with
        | false => rw [hb, cond_false] at h; cases h
        | true =>
          rw [hb, cond_true] at h
          cases h
          rw [Bool.and_eq_true] at hb
          exact ⟨lw, z :: y :: z :: y :: s, by simp only [zP]; rw [if_pos ⟨zyIA_ok hb.1 h3, zyIA_ok hb.2 h5⟩], hl, h3, h5, h3, h5, h6⟩
  case pop =>
    cases st with
    | nil => cases h
    | cons v r =>
      obtain ⟨z, s, rfl, h3, h4⟩ := zyRs_cons hs
      simp only [zyPs] at h
      cases hb : (zyI v || zyA v) with
      | false => rw [hb, cond_false] at h; cases h
      | true =>
        rw [hb, cond_true] at h
        cases h
        exact ⟨lw, s, by simp only [zP]; rw [if_pos (zyIA_ok hb h3)], hl, h4⟩
  case iadd => exact zytop_ok _ h hl hs
  case isub => exact zytop_ok _ h hl hs
  case imul => exact zytop_ok _ h hl hs
  case iand => exact zytop_ok _ h hl hs
  case ior => exact zytop_ok _ h hl hs
  case ixor => exact zytop_ok _ h hl hs
  case ishl => exact zytop_ok _ h hl hs
  case ishr => exact zytop_ok _ h hl hs
  case iushr => exact zytop_ok _ h hl hs
  case i2b =>
    cases st with
    | nil => cases h
    | cons v r =>
      obtain ⟨z, s, rfl, h3, h4⟩ := zyRs_cons hs
      simp only [zyPs] at h
      cases hb : zyI v with
      | false => rw [hb, cond_false] at h; cases h
      | true =>
        rw [hb, cond_true] at h
        cases h
        obtain ⟨a, rfl⟩ := zyI_ok hb h3
        exact ⟨_, _, rfl, hl, ⟨_, rfl⟩, h4⟩
  case ifCond k off =>
    cases st with
    | nil => cases h
    | cons v r =>
      obtain ⟨z, s, rfl, h3, h4⟩ := zyRs_cons hs
      simp only [zyPs] at h
      cases hb : zyI v with
      | false => rw [hb, cond_false] at h; cases h
      | true =>
        rw [hb, cond_true] at h
        obtain ⟨a, rfl⟩ := zyI_ok hb h3
        cases hd : zydc k (zyrg E v) (0, 0) with
        | none => rw [hd] at h; cases h
        | some b =>
          rw [hd] at h
          simp only [zybr] at h
          have h5 := zydc_ok (y := 0) hd (zyrg_ok hK h3) ⟨Int.le_refl _, Int.le_refl _⟩
          cases ht : ztg pc off with
          | none => rw [ht] at h; cases h
          | some t =>
            rw [ht] at h
            cases h
            refine ⟨lw, s, ?_, hl, h4⟩
            simp only [zP, zbr, ht, zc12, h5, Option.map_some]
  case if_icmp k off =>
    cases st with
    | nil => cases h
    | cons v r =>
      cases r with
      | nil => cases h
      | cons u r =>
        obtain ⟨z, s, rfl, h3, h4⟩ := zyRs_cons hs
        obtain ⟨y, s, rfl, h5, h6⟩ := zyRs_cons h4
        simp only [zyPs] at h
        cases hb : (zyI u && zyI v) with
        | false => rw [hb, cond_false] at h; cases h
        | true =>
          rw [hb, cond_true] at h
          rw [Bool.and_eq_true] at hb
          obtain ⟨a, rfl⟩ := zyI_ok hb.2 h3
          obtain ⟨b, rfl⟩ := zyI_ok hb.1 h5
          cases hd : zydc k (zyrg E u) (zyrg E v) with
          | none => rw [hd] at h; cases h
          | some b' =>
            rw [hd] at h
            simp only [zybr] at h
            have h7 := zydc_ok hd (zyrg_ok hK h5) (zyrg_ok hK h3)
            cases ht : ztg pc off with
            | none => rw [ht] at h; cases h
            | some t =>
              rw [ht] at h
              cases h
              refine ⟨lw, s, ?_, hl, h6⟩
              simp only [zP, zbr, ht, h7, Option.map_some]
  case tableswitch dflt lo hi offs =>
    cases st with
    | nil => cases h
    | cons v r =>
      obtain ⟨z, s, rfl, h3, h4⟩ := zyRs_cons hs
      simp only [zyPs] at h
      cases hb : zyI v with
      | false => rw [hb, cond_false] at h; cases h
      | true =>
        rw [hb, cond_true] at h
        obtain ⟨a, rfl⟩ := zyI_ok hb h3
        have h5 := zyrg_ok hK h3
        split at h
        · rename_i hc
          have h6 : a.toInt < lo ∨ hi < a.toInt := by
            rcases hc with hc | hc
            · exact Or.inl (Int.lt_of_le_of_lt h5.2 hc)
            · exact Or.inr (Int.lt_of_lt_of_le hc h5.1)
          cases ht : ztg pc dflt with
          | none => rw [ht] at h; cases h
          | some t =>
            rw [ht] at h
            cases h
            refine ⟨lw, s, ?_, hl, h4⟩
            simp only [zP]
            rw [if_pos h6]
            simp only [zgo, ht, Option.map_some]
        · cases h
  all_goals (simp only [zyPs] at h; cases h)
theorem zyP_ok {i : Instr} (hK : zyK ρ E) (h : zyP E c i pc lv st = some (pc', lv', st')) (hl : zyLR ρ lv lw) (hs : zyRs ρ st w) : ∃ lw' w', zP c i pc lw w = some (pc', lw', w') ∧ zyLR ρ lv' lw' ∧ zyRs ρ st' w' := by
  unfold zyP at h
  cases hn : zyar i with
  | none => rw [hn] at h; exact zyPs_ok hK h hl hs
  | some n =>
    rw [hn] at h
    dsimp only at h
    cases hu : zyun E n st with
    | none => rw [hu] at h; exact zyPs_ok hK h hl hs
    | some q =>
      obtain ⟨vs, r⟩ := q
      rw [hu] at h
      dsimp only at h
      obtain ⟨s, rfl, h3, h4⟩ := zyun_ok hK hu hs
      cases hp : zP c i pc [] vs with
      | none => rw [hp] at h; cases h
      | some y =>
        obtain ⟨a, l, vs'⟩ := y
        rw [hp] at h
        cases h
        exact ⟨lw, vs' ++ s, zP_frame hn h4 hp lw s, hl, zyRs_app (zyRs_map vs') h3⟩
end ZYB
