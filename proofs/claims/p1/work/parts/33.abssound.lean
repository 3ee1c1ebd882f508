/-! what the abstract machine says holds of the small one -/
def zyR (ρ : Nat → Int32) (v : zyV) (w : Value) : Prop := match v with
  | .inl x => w = x
  | .inr (some k) => w = .int (ρ k)
  | .inr none => ∃ x, w = .int x
def zyRs (ρ : Nat → Int32) : List zyV → List Value → Prop
  | [], [] => True
  | v :: r, w :: s => zyR ρ v w ∧ zyRs ρ r s
  | _, _ => False
def zyLR (ρ : Nat → Int32) (lv : zyLv) (lw : zLv) : Prop := lv.length = lw.length ∧ ∀ (k : Nat) (v : zyV), lv[k]? = some (some v) → ∃ w, lw[k]? = some (some w) ∧ zyR ρ v w
def zyK (ρ : Nat → Int32) (E : zyE) : Prop := ∀ q ∈ E, q.2.1 ≤ (ρ q.1).toInt ∧ (ρ q.1).toInt ≤ q.2.2
def zyMR (ρ : Nat → Int32) (A : zyM) (M : zMem) : Prop := M.1 = A.1 ∧ (∀ i k, zyR ρ (A.2.1 i k) (.int (M.2.1 i k))) ∧ (∀ i k x, A.2.2.1 i k = some x → M.2.2.1 i k = x) ∧ M.2.2.2 = A.2.2.2
def zyOR (ρ : Nat → Int32) (o : zyO) (w : zO) : Prop := match o, w with
  | .inl none, .inl none => True
  | .inl (some v), .inl (some x) => zyR ρ v x
  | .inr a, .inr b => a = b
  | _, _ => False
def zyT (ρ : Nat → Int32) (τ : Nat → Nat × (Nat → zyV)) (σ : Nat → Nat × (Nat → Int32)) : Prop := ∀ n, (σ n).1 = (τ n).1 ∧ ∀ k, zyR ρ ((τ n).2 k) (.int ((σ n).2 k))
section ZYA
variable {ρ : Nat → Int32} {E : zyE}
theorem zyRs_nil {w : List Value} (h : zyRs ρ [] w) : w = [] := by
  cases w with
  | nil => rfl
  | cons a r => exact absurd h (fun q => q)
theorem zyRs_cons {v : zyV} {r : List zyV} {w : List Value} (h : zyRs ρ (v :: r) w) : ∃ x s, w = x :: s ∧ zyR ρ v x ∧ zyRs ρ r s := by
  cases w with
  | nil => exact absurd h (fun q => q)
  | cons a s => exact ⟨a, s, rfl, h.1, h.2⟩
theorem zyRs_app : ∀ {a : List zyV} {x : List Value} {b : List zyV} {y : List Value}, zyRs ρ a x → zyRs ρ b y → zyRs ρ (a ++ b) (x ++ y) := by
  intro a
  induction a with
  | nil =>
    intro x b y h1 h2
    rw [zyRs_nil h1]; exact h2
  | cons v r ih =>
    intro x b y h1 h2
    obtain ⟨z, s, rfl, h3, h4⟩ := zyRs_cons h1
    exact ⟨h3, ih h4 h2⟩
theorem zyRs_map : ∀ (vs : List Value), zyRs ρ (vs.map .inl) vs := by
  intro vs
  induction vs with
  | nil => exact trivial
  | cons v r ih => exact ⟨rfl, ih⟩
theorem zyRs_len : ∀ {a : List zyV} {x : List Value}, zyRs ρ a x → x.length = a.length := by
  intro a
  induction a with
  | nil => intro x h; rw [zyRs_nil h]; rfl
  | cons v r ih =>
    intro x h
    obtain ⟨z, s, rfl, h3, h4⟩ := zyRs_cons h
    rw [List.length_cons, List.length_cons, ih h4]
theorem zyRs_drop : ∀ (n : Nat) {a : List zyV} {x : List Value}, zyRs ρ a x → zyRs ρ (a.drop n) (x.drop n) := by
  intro n
  induction n with
  | zero => intro a x h; rw [List.drop_zero, List.drop_zero]; exact h
  | succ n ih =>
    intro a x h
    cases a with
    | nil => rw [zyRs_nil h, List.drop_nil, List.drop_nil]; exact trivial
    | cons v r =>
      obtain ⟨z, s, rfl, h3, h4⟩ := zyRs_cons h
      rw [List.drop_succ_cons, List.drop_succ_cons]
      exact ih h4
theorem zyRs_take : ∀ (n : Nat) {a : List zyV} {x : List Value}, zyRs ρ a x → zyRs ρ (a.take n) (x.take n) := by
  intro n
  induction n with
  | zero => intro a x h; rw [List.take_zero, List.take_zero]; exact trivial
  | succ n ih =>
    intro a x h
    cases a with
    | nil => rw [zyRs_nil h, List.take_nil, List.take_nil]; exact trivial
    | cons v r =>
      obtain ⟨z, s, rfl, h3, h4⟩ := zyRs_cons h
      rw [List.take_succ_cons, List.take_succ_cons]
      exact ⟨h3, ih h4⟩
theorem zyRs_rev : ∀ {a : List zyV} {x : List Value}, zyRs ρ a x → zyRs ρ a.reverse x.reverse := by
  intro a
  induction a with
  | nil => intro x h; rw [zyRs_nil h]; exact trivial
  | cons v r ih =>
    intro x h
    obtain ⟨z, s, rfl, h3, h4⟩ := zyRs_cons h
    rw [List.reverse_cons, List.reverse_cons]
    exact zyRs_app (ih h4) ⟨h3, trivial⟩
theorem zycat_ok {v : zyV} {w : Value} (h : zyR ρ v w) : w.category = zycat v := by
  cases v with
  | inl x => cases h; rfl
  | inr o =>
    cases o with
    | none => obtain ⟨x, rfl⟩ := h; rfl
    | some k => cases h; rfl
theorem zysum_ok : ∀ {a : List zyV} {x : List Value}, zyRs ρ a x → zsum x = zysum a := by
  intro a
  induction a with
  | nil => intro x h; rw [zyRs_nil h]; rfl
  | cons v r ih =>
    intro x h
    obtain ⟨z, s, rfl, h3, h4⟩ := zyRs_cons h
    have h5 := ih h4
    unfold zsum zysum at h5 ⊢
    rw [List.map_cons, List.map_cons, List.sum_cons, List.sum_cons, h5, zycat_ok h3]
theorem zyall_ok : ∀ {a : List zyV} {x : List Value}, zyRs ρ a x → a.all (fun v => zycat v == 1) = true → x.all (fun v => v.category == 1) = true := by
  intro a
  induction a with
  | nil => intro x h _; rw [zyRs_nil h]; rfl
  | cons v r ih =>
    intro x h hb
    obtain ⟨z, s, rfl, h3, h4⟩ := zyRs_cons h
    rw [List.all_cons, Bool.and_eq_true] at hb ⊢
    refine ⟨?_, ih h4 hb.2⟩
    rw [zycat_ok h3]; exact hb.1
theorem zyI_ok {v : zyV} {w : Value} (h : zyI v = true) (hr : zyR ρ v w) : ∃ x, w = .int x := by
  cases v with
  | inl y =>
    cases hr
    cases w
    case int x => exact ⟨x, rfl⟩
    all_goals cases h
  | inr o =>
    cases o with
    | none => exact hr
    | some k => exact ⟨_, hr⟩
theorem zyA_ok {v : zyV} {w : Value} (h : zyA v = true) (hr : zyR ρ v w) : ∃ a, w = .ref a := by
  cases v with
  | inl y =>
    cases hr
    cases w
    case ref x => exact ⟨x, rfl⟩
    all_goals cases h
  | inr o => cases h
theorem zyIA_ok {v : zyV} {w : Value} (h : (zyI v || zyA v) = true) (hr : zyR ρ v w) : w.category = 1 := by
  cases hi : zyI v with
  | true => obtain ⟨x, rfl⟩ := zyI_ok hi hr; rfl
  | false =>
    rw [hi, Bool.false_or] at h
    obtain ⟨x, rfl⟩ := zyA_ok h hr; rfl
theorem zyiv_ok : ∀ {E : zyE}, zyK ρ E → ∀ k, (zyiv E k).1 ≤ (ρ k).toInt ∧ (ρ k).toInt ≤ (zyiv E k).2 := by
  intro E
  induction E with
  | nil =>
    intro _ k
    exact ⟨Int32.le_toInt (ρ k), Int.le_of_lt_add_one (Int32.toInt_lt (ρ k))⟩
  | cons q r ih =>
    intro h k
    rw [zyiv]
    cases hq : Nat.beq q.1 k with
    | false =>
      rw [cond_false]
      exact ih (fun x hx => h x (List.mem_cons_of_mem _ hx)) k
    | true =>
      rw [cond_true]
      have e := Nat.eq_of_beq_eq_true hq
      have := h q List.mem_cons_self
      rw [e] at this
      exact this
theorem zyres_ok {v : zyV} {w : Value} (hK : zyK ρ E) (h : zyR ρ v w) : zyR ρ (zyres E v) w := by
  cases v with
  | inl x => exact h
  | inr o =>
    cases o with
    | none => exact h
    | some k =>
      unfold zyres
      dsimp only
      split
      · rename_i he
        have h1 := zyiv_ok hK k
        have h2 : (ρ k).toInt = (zyiv E k).1 := by omega
        have h3 : w = .int (ρ k) := h
        show w = .int (Int32.ofInt (zyiv E k).1)
        rw [h3, ← h2, Int32.ofInt_toInt]
      · exact h
theorem zyun_ok (hK : zyK ρ E) : ∀ {n : Nat} {st : List zyV} {w : List Value} {vs : List Value} {r : List zyV}, zyun E n st = some (vs, r) → zyRs ρ st w → ∃ s, w = vs ++ s ∧ zyRs ρ r s ∧ vs.length = n := by
  intro n
  induction n with
  | zero =>
    intro st w vs r h hs
    rw [zyun] at h
    cases h
    exact ⟨w, rfl, hs, rfl⟩
  | succ n ih =>
    intro st w vs r h hs
    cases st with
    | nil => rw [zyun] at h; cases h
    | cons v t =>
      obtain ⟨z, s, rfl, h3, h4⟩ := zyRs_cons hs
      rw [zyun] at h
      have h5 := zyres_ok hK h3
      cases hv : zyres E v with
      | inr o => rw [hv] at h; cases h
      | inl x =>
        rw [hv] at h h5
        cases h5
        cases hu : zyun E n t with
        | none => simp only [hu] at h; cases h
        | some q =>
          obtain ⟨vs', r'⟩ := q
          simp only [hu] at h
          cases h
          obtain ⟨s', rfl, h6, h7⟩ := ih hu h4
          exact ⟨s', rfl, h6, by rw [List.length_cons, h7]⟩
theorem zyLR_set {lv : zyLv} {lw : zLv} (h : zyLR ρ lv lw) (k : Nat) {v : zyV} {w : Value} (hv : zyR ρ v w) : zyLR ρ (lv.set k (some v)) (lw.set k (some w)) := by
  refine ⟨by rw [List.length_set, List.length_set]; exact h.1, fun l u hu => ?_⟩
  rw [List.getElem?_set] at hu ⊢
  by_cases hk : k = l
  · subst hk
    rw [if_pos rfl] at hu ⊢
    by_cases hl : k < lv.length
    · rw [if_pos hl] at hu
      rw [if_pos (h.1 ▸ hl)]
      cases hu
      exact ⟨w, rfl, hv⟩
    · rw [if_neg hl] at hu; cases hu
  · rw [if_neg hk] at hu ⊢
    exact h.2 l u hu
theorem zyrg_ok {v : zyV} {x : Int32} (hK : zyK ρ E) (h : zyR ρ v (.int x)) : (zyrg E v).1 ≤ x.toInt ∧ x.toInt ≤ (zyrg E v).2 := by
  have hf : (-2147483648 : Int) ≤ x.toInt ∧ x.toInt ≤ 2147483647 := ⟨Int32.le_toInt x, Int.le_of_lt_add_one (Int32.toInt_lt x)⟩
  cases v with
  | inl y =>
    have h1 : Value.int x = y := h
    subst h1
    exact ⟨Int.le_refl _, Int.le_refl _⟩
  | inr o =>
    cases o with
    | none => exact hf
    | some k =>
      have h1 : Value.int x = .int (ρ k) := h
      cases h1
      exact zyiv_ok hK k
theorem zc12 (k : ClassFile.Cond) (x : Int32) : zc1 k x = zc2 k x 0 := by cases k <;> rfl
theorem zydc_ok {k : ClassFile.Cond} {p q : Int × Int} {b : Bool} {x y : Int32} (h : zydc k p q = some b) (hx : p.1 ≤ x.toInt ∧ x.toInt ≤ p.2) (hy : q.1 ≤ y.toInt ∧ y.toInt ≤ q.2) : zc2 k x y = b := by
  have hE : x = y ↔ x.toInt = y.toInt := Int32.toInt_inj.symm
  have hL : x < y ↔ x.toInt < y.toInt := Int32.lt_iff_toInt_lt
  have hL' : y < x ↔ y.toInt < x.toInt := Int32.lt_iff_toInt_lt
  have hM : x ≤ y ↔ x.toInt ≤ y.toInt := Int32.le_iff_toInt_le
  have hM' : y ≤ x ↔ y.toInt ≤ x.toInt := Int32.le_iff_toInt_le
  generalize x.toInt = a at *
  generalize y.toInt = c at *
  obtain ⟨p1, p2⟩ := p
  obtain ⟨q1, q2⟩ := q
  dsimp only at hx hy
  cases k
  all_goals simp only [zydc] at h
  all_goals simp only [zc2]
  all_goals repeat' split at h
  all_goals first | (cases h; done) | skip
  all_goals cases h
  all_goals first | (apply decide_eq_true) | (apply decide_eq_false)
  all_goals first | rw [hE] | rw [hL] | rw [hL'] | rw [hM] | rw [hM']
  all_goals omega
end ZYA
theorem zP_frame {c : Nat} {i : Instr} {pc n pc' : Nat} {vs vs' : List Value} {l : zLv} (hn : zyar i = some n) (hl : vs.length = n) (h : zP c i pc [] vs = some (pc', l, vs')) (lv : zLv) (st : List Value) : zP c i pc lv (vs ++ st) = some (pc', lv, vs' ++ st) := by
  have h0 : n = 0 → vs = [] := fun e => List.eq_nil_of_length_eq_zero (hl.trans e)
  have h1 : n = 1 → ∃ a, vs = [a] := fun e => List.length_eq_one_iff.mp (hl.trans e)
  have h2 : n = 2 → ∃ a b, vs = [a, b] := fun e => by
    have hl2 := hl.trans e
    match vs, hl2 with
    | [a, b], _ => exact ⟨a, b, rfl⟩
  clear hl
  cases i
  case iconst k => cases hn; obtain rfl := h0 rfl; simp only [zP] at h ⊢; cases h; rfl
  case bipush k => cases hn; obtain rfl := h0 rfl; simp only [zP] at h ⊢; cases h; rfl
  case sipush k => cases hn; obtain rfl := h0 rfl; simp only [zP] at h ⊢; cases h; rfl
  case goto off =>
    cases hn; obtain rfl := h0 rfl
    simp only [zP, zgo] at h ⊢
    cases ht : ztg pc off with
    | none => rw [ht] at h; cases h
    | some t => rw [ht] at h; cases h; rfl
  case ldc idx =>
    cases hn; obtain rfl := h0 rfl
    simp only [zP] at h ⊢
    cases ht : zint c idx with
    | none => simp only [ht] at h; cases h
    | some t => simp only [ht] at h ⊢; cases h; rfl
  case ldc_w idx =>
    cases hn; obtain rfl := h0 rfl
    simp only [zP] at h ⊢
    cases ht : zint c idx with
    | none => simp only [ht] at h; cases h
    | some t => simp only [ht] at h ⊢; cases h; rfl
  case i2l =>
    cases hn; obtain ⟨a, rfl⟩ := h1 rfl
    cases a
    case int x => simp only [zP] at h; cases h; rfl
    all_goals (simp only [zP] at h; cases h)
  case i2b =>
    cases hn; obtain ⟨a, rfl⟩ := h1 rfl
    cases a
    case int x => simp only [zP] at h; cases h; rfl
    all_goals (simp only [zP] at h; cases h)
  case ifCond k off =>
    cases hn; obtain ⟨a, rfl⟩ := h1 rfl
    cases a
    case int x =>
      simp only [zP, zbr, List.cons_append, List.nil_append] at h ⊢
      cases ht : ztg pc off with
      | none => rw [ht] at h; cases h
      | some t => rw [ht] at h; cases h; rfl
    all_goals (simp only [zP] at h; cases h)
  case tableswitch dflt lo hi offs =>
    cases hn; obtain ⟨a, rfl⟩ := h1 rfl
    cases a
    case int x =>
      simp only [zP, zgo, List.cons_append, List.nil_append] at h ⊢
      split at h
      · rename_i hc
        rw [if_pos hc]
        cases ht : ztg pc dflt with
        | none => rw [ht] at h; cases h
        | some t => rw [ht] at h; cases h; rfl
      · rename_i hc
        rw [if_neg hc]
        split at h
        · rename_i off ho
          cases ht : ztg pc off with
          | none => rw [ht] at h; cases h
          | some t => rw [ht] at h; cases h; rfl
        · cases h
    all_goals (simp only [zP] at h; cases h)
  case lookupswitch dflt ps =>
    cases hn; obtain ⟨a, rfl⟩ := h1 rfl
    cases a
    case int x =>
      simp only [zP, zgo, List.cons_append, List.nil_append] at h ⊢
      split at h
      · rename_i hc
        rw [if_pos hc]
        cases ht : ztg pc (Op.lookupswitch.offset ps.toList dflt x.toInt) with
        | none => rw [ht] at h; cases h
        | some t => rw [ht] at h; cases h; rfl
      · cases h
    all_goals (simp only [zP] at h; cases h)
  case lcmp =>
    cases hn; obtain ⟨a, b, rfl⟩ := h2 rfl
    cases a
    case long x =>
      cases b
      case long y => simp only [zP] at h; cases h; rfl
      all_goals (simp only [zP] at h; cases h)
    all_goals (simp only [zP] at h; cases h)
  case if_icmp k off =>
    cases hn; obtain ⟨a, b, rfl⟩ := h2 rfl
    cases a
    case int x =>
      cases b
      case int y =>
        simp only [zP, zbr, List.cons_append, List.nil_append] at h ⊢
        cases ht : ztg pc off with
        | none => rw [ht] at h; cases h
        | some t => rw [ht] at h; cases h; rfl
      all_goals (simp only [zP] at h; cases h)
    all_goals (simp only [zP] at h; cases h)
  case idiv =>
    cases hn; obtain ⟨a, b, rfl⟩ := h2 rfl
    cases a
    case int x =>
      cases b
      case int y =>
        simp only [zP, z2d, List.cons_append, List.nil_append] at h ⊢
        split at h
        · cases h
        · rename_i hc
          rw [if_neg hc]; cases h; rfl
      all_goals (simp only [zP, z2d] at h; cases h)
    all_goals (simp only [zP, z2d] at h; cases h)
  case irem =>
    cases hn; obtain ⟨a, b, rfl⟩ := h2 rfl
    cases a
    case int x =>
      cases b
      case int y =>
        simp only [zP, z2d, List.cons_append, List.nil_append] at h ⊢
        split at h
        · cases h
        · rename_i hc
          rw [if_neg hc]; cases h; rfl
      all_goals (simp only [zP, z2d] at h; cases h)
    all_goals (simp only [zP, z2d] at h; cases h)
  case iadd =>
    cases hn; obtain ⟨a, b, rfl⟩ := h2 rfl
    cases a <;> cases b <;> simp only [zP, z2] at h <;> cases h
    rfl
  case isub =>
    cases hn; obtain ⟨a, b, rfl⟩ := h2 rfl
    cases a <;> cases b <;> simp only [zP, z2] at h <;> cases h
    rfl
  case imul =>
    cases hn; obtain ⟨a, b, rfl⟩ := h2 rfl
    cases a <;> cases b <;> simp only [zP, z2] at h <;> cases h
    rfl
  case iand =>
    cases hn; obtain ⟨a, b, rfl⟩ := h2 rfl
    cases a <;> cases b <;> simp only [zP, z2] at h <;> cases h
    rfl
  case ior =>
    cases hn; obtain ⟨a, b, rfl⟩ := h2 rfl
    cases a <;> cases b <;> simp only [zP, z2] at h <;> cases h
    rfl
  case ixor =>
    cases hn; obtain ⟨a, b, rfl⟩ := h2 rfl
    cases a <;> cases b <;> simp only [zP, z2] at h <;> cases h
    rfl
  case ishl =>
    cases hn; obtain ⟨a, b, rfl⟩ := h2 rfl
    cases a <;> cases b <;> simp only [zP, z2] at h <;> cases h
    rfl
  case ishr =>
    cases hn; obtain ⟨a, b, rfl⟩ := h2 rfl
    cases a <;> cases b <;> simp only [zP, z2] at h <;> cases h
    rfl
  case iushr =>
    cases hn; obtain ⟨a, b, rfl⟩ := h2 rfl
    cases a <;> cases b <;> simp only [zP, z2] at h <;> cases h
    rfl
  all_goals (simp only [zyar] at hn; cases hn)
