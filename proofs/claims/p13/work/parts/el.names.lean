/-! names read alike -/
/-- the letters from sm to p are these -/
noncomputable def mtc (T : Nat → Int32) : List Int32 → Nat → Nat → Bool
  | [], sm, p => decide (sm = p)
  | c :: w, sm, p => decide (sm < p) && decide (T sm = c) && mtc T w (sm + 1) p
noncomputable def nmF (T : Nat → Int32) (p b : Nat) : List Int32 → Nat → Nat → Int32 → Int32
  | [], nm, sm, df => bif zc1 .ne df then -1 else bif zc2 .ne (Int32.ofNat sm) (Int32.ofNat p) then -1 else Int32.ofNat nm
  | c :: r, nm, sm, df => bif zc2 .ne c (Int32.ofNat 32) then (bif zc2 .ge (Int32.ofNat sm) (Int32.ofNat p) then nmF T p b r nm sm (Int32.ofNat 1) else bif zc2 .ne (T sm) c then nmF T p b r nm sm (Int32.ofNat 1) else nmF T p b r nm (sm + 1) df) else (bif zc1 .ne df then nmF T p b r (nm + 1) b (Int32.ofNat 0) else bif zc2 .ne (Int32.ofNat sm) (Int32.ofNat p) then nmF T p b r (nm + 1) b (Int32.ofNat 0) else Int32.ofNat nm)
theorem zceq_n {a b : Nat} (ha : a < 2147483648) (hb : b < 2147483648) : zc2 .eq (Int32.ofNat a) (Int32.ofNat b) = decide (a = b) := by
  by_cases q : a = b
  · subst q; rw [decide_eq_true rfl]; exact decide_eq_true rfl
  · rw [decide_eq_false q]
    refine decide_eq_false (fun e => q ?_)
    have := congrArg Int32.toInt e
    rw [zoN (by omega), zoN (by omega)] at this
    omega
theorem nmF_eq {T : Nat → Int32} {p b s : Nat} (hl : (zby s).length < 100000) : ∀ (n : Nat) (nm sm : Nat) (df : Int32) (k : Nat), k + n = (zby s).length + 1 → 1 ≤ n → yl_name T p b s n nm sm df k = nmF T p b ((zby s).drop k) nm sm df := by
  intro n
  induction n with
  | zero => intro nm sm df k _ h; omega
  | succ n ih =>
    intro nm sm df k hk _
    rw [yl_name, zceq_n (by omega) (by omega)]
    by_cases q : k = (zby s).length
    · rw [decide_eq_true q, List.drop_eq_nil_of_le (by omega)]
      obtain rfl : n = 0 := by omega
      rw [cnT, nmF]
      rfl
    · have hk2 : k < (zby s).length := by omega
      have hg : (zby s).getD k 0 = (zby s)[k] := by rw [List.getD_eq_getElem?_getD, List.getElem?_eq_getElem hk2]; rfl
      rw [decide_eq_false q, cnF, List.drop_eq_getElem_cons hk2, nmF, hg, ih _ _ _ _ (by omega) (by omega), ih _ _ _ _ (by omega) (by omega), ih _ _ _ _ (by omega) (by omega)]
theorem nmF_1 {T : Nat → Int32} {p b : Nat} {r : List Int32} : ∀ (w : List Int32) (nm sm : Nat), (∀ c, c ∈ w → c ≠ Int32.ofNat 32) → nmF T p b (w ++ r) nm sm (Int32.ofNat 1) = nmF T p b r nm (if p ≤ sm then sm else sm) (Int32.ofNat 1) ∨ ∃ sm', nmF T p b (w ++ r) nm sm (Int32.ofNat 1) = nmF T p b r nm sm' (Int32.ofNat 1) := by
  intro w
  induction w with
  | nil => intro nm sm _; exact Or.inr ⟨sm, rfl⟩
  | cons c w ih =>
    intro nm sm hw
    have hc : zc2 .ne c (Int32.ofNat 32) = true := by
      rw [zne2_n]
      have : zc2 .eq c (Int32.ofNat 32) = false := decide_eq_false (hw c (List.mem_cons_self ..))
      rw [this]; rfl
    have hw2 : ∀ c, c ∈ w → c ≠ Int32.ofNat 32 := fun c h => hw c (List.mem_cons_of_mem _ h)
    rw [List.cons_append, nmF, hc, cnT]
    have g : ∀ sm, ∃ sm', nmF T p b (w ++ r) nm sm (Int32.ofNat 1) = nmF T p b r nm sm' (Int32.ofNat 1) := fun sm => by
      rcases ih nm sm hw2 with h | h
      · exact ⟨_, h⟩
      · exact h
    refine Or.inr ?_
    exact cndi (fun q : Int32 => ∃ sm', q = nmF T p b r nm sm' (Int32.ofNat 1)) (g _) (cndi (fun q : Int32 => ∃ sm', q = nmF T p b r nm sm' (Int32.ofNat 1)) (g _) (g _))
/-- a name and what follows it -/
noncomputable def nmE (T : Nat → Int32) (p b : Nat) (r : List Int32) (nm : Nat) : Int32 := match r with
  | [] => -1
  | _ :: r => nmF T p b r (nm + 1) b (Int32.ofNat 0)
noncomputable def tlk (r : List Int32) : Prop := r = [] ∨ ∃ x, r = Int32.ofNat 32 :: x
theorem nmF_b {T : Nat → Int32} {p b nm sm : Nat} {r : List Int32} (hr : tlk r) : nmF T p b r nm sm (Int32.ofNat 1) = nmE T p b r nm := by
  rcases hr with rfl | ⟨x, rfl⟩
  · rw [nmF, zn1, cnT]; rfl
  · have h : zc2 .ne (Int32.ofNat 32) (Int32.ofNat 32) = false := by decide
    rw [nmF, h, cnF, zn1, cnT]; rfl
theorem nmF_g {T : Nat → Int32} {p b nm sm : Nat} {r : List Int32} (hr : tlk r) (h1 : sm < 100000) (h2 : p < 100000) : nmF T p b r nm sm (Int32.ofNat 0) = (bif decide (sm = p) then Int32.ofNat nm else nmE T p b r nm) := by
  have e : zc2 .ne (Int32.ofNat sm) (Int32.ofNat p) = !decide (sm = p) := by rw [zne2_n, zceq_n (by omega) (by omega)]
  rcases hr with rfl | ⟨x, rfl⟩
  · rw [nmF, zne0, cnF, e]
    cases decide (sm = p) <;> rfl
  · have h : zc2 .ne (Int32.ofNat 32) (Int32.ofNat 32) = false := by decide
    rw [nmF, h, cnF, zne0, cnF, e]
    cases decide (sm = p) <;> rfl
theorem nmF_w {T : Nat → Int32} {p b : Nat} {r : List Int32} (hr : tlk r) (hp : p < 100000) : ∀ (w : List Int32) (nm sm : Nat), (∀ c, c ∈ w → c ≠ Int32.ofNat 32) → sm ≤ p → nmF T p b (w ++ r) nm sm (Int32.ofNat 0) = (bif mtc T w sm p then Int32.ofNat nm else nmE T p b r nm) := by
  intro w
  induction w with
  | nil =>
    intro nm sm _ hs
    rw [List.nil_append, nmF_g hr (by omega) hp]
    rfl
  | cons c w ih =>
    intro nm sm hw hs
    have hc : zc2 .ne c (Int32.ofNat 32) = true := by
      rw [zne2_n]
      have : zc2 .eq c (Int32.ofNat 32) = false := decide_eq_false (hw c (List.mem_cons_self ..))
      rw [this]; rfl
    have hw2 : ∀ c, c ∈ w → c ≠ Int32.ofNat 32 := fun c h => hw c (List.mem_cons_of_mem _ h)
    have g1 : nmF T p b (w ++ r) nm sm (Int32.ofNat 1) = nmE T p b r nm := by
      rcases nmF_1 (T := T) (p := p) (b := b) (r := r) w nm sm hw2 with h | ⟨s, h⟩
      · rw [h, nmF_b hr]
      · rw [h, nmF_b hr]
    rw [List.cons_append, nmF, hc, cnT, g1, mtc]
    by_cases q : p ≤ sm
    · rw [zcge (by omega) (by omega) q, cnT, decide_eq_false (show ¬ sm < p by omega)]
      rfl
    · rw [zcge_f (by omega) (by omega) (by omega), cnF, decide_eq_true (show sm < p by omega), zne2_n, ih nm (sm + 1) hw2 (by omega)]
      have e : zc2 .eq (T sm) c = decide (T sm = c) := rfl
      rw [e]
      cases decide (T sm = c) <;> rfl
theorem mtc_len {T : Nat → Int32} : ∀ (w : List Int32) (sm p : Nat), mtc T w sm p = true → sm + w.length = p := by
  intro w
  induction w with
  | nil => intro sm p h; exact of_decide_eq_true h
  | cons c w ih =>
    intro sm p h
    rw [mtc, Bool.and_eq_true] at h
    have := ih _ _ h.2
    rw [List.length_cons]
    omega
theorem isWordL_eq {T : Nat → Int32} {mm : Nat → Nat → Int32} {b p s : Nat} (hT : ∀ q, b ≤ q → q < p → mm 141 q = T q) (hl : b + (zby s).length = p) : ∀ (n k : Nat), k + n = (zby s).length → l_isWord mm b s n (Int32.ofNat 1) k = (bif mtc T ((zby s).drop k) (b + k) p then Int32.ofNat 1 else Int32.ofNat 0) := by
  intro n
  induction n with
  | zero =>
    intro k hk
    rw [List.drop_eq_nil_of_le (by omega), mtc, decide_eq_true (show b + k = p by omega), cnT, l_isWord, zeq1', cnF]
  | succ n ih =>
    intro k hk
    have hk2 : k < (zby s).length := by omega
    have hg : (zby s).getD k 0 = (zby s)[k] := by rw [List.getD_eq_getElem?_getD, List.getElem?_eq_getElem hk2]; rfl
    have z0 : ∀ n k, l_isWord mm b s n (Int32.ofNat 0) k = Int32.ofNat 0 := fun n k => by cases n <;> rfl
    rw [l_isWord, zeq1', cnF, z0, ih _ (by omega), hg, hT _ (by omega) (by omega), List.drop_eq_getElem_cons hk2, mtc, decide_eq_true (show b + k < p by omega), zne2_n]
    have e : zc2 .eq (T (b + k)) (zby s)[k] = decide (T (b + k) = (zby s)[k]) := rfl
    rw [e, show b + (k + 1) = b + k + 1 by omega]
    cases decide (T (b + k) = (zby s)[k]) <;> rfl
theorem isWord_eq {T : Nat → Int32} {mm : Nat → Nat → Int32} {b p s : Nat} (hT : ∀ q, b ≤ q → q < p → mm 141 q = T q) (hbp : b ≤ p) (hp : p ≤ 400) (hl : (zby s).length < 100000) : q_isWord mm p b s = (bif mtc T (zby s) b p then Int32.ofNat 1 else Int32.ofNat 0) := by
  unfold q_isWord
  rw [zne2_n, zceq_n (by omega) (by omega)]
  by_cases q : p - b = (zby s).length
  · rw [decide_eq_true q]
    have h := isWordL_eq (s := s) hT (by omega) (zby s).length 0 (by omega)
    rw [List.drop_zero, Nat.add_zero] at h
    exact h
  · rw [decide_eq_false q]
    have : mtc T (zby s) b p = false := by
      cases h : mtc T (zby s) b p with
      | false => rfl
      | true => have := mtc_len _ _ _ h; omega
    rw [this]
    rfl
