/-- the class's other methods, at the Reader's memory -/
theorem yc_lockAt {σ : Nat → Nat × (Nat → Int32)} {yy : (Nat → Nat → Int64) × Bool × Nat × Nat} {m : Nat → Nat → Int32} {p b l : Nat} (hl : l < 4) : zF σ 1 603 [.ref 43, .int (Int32.ofNat l)] (zS1, XP m p b, yy) (.inl (some (.ref (43 + 5 + l)))) (zS1, XP m p b, yy) := xc_lockAt (m := XP m p b) (b := 43) bb43 hl
theorem yc_strandAt {σ : Nat → Nat × (Nat → Int32)} {yy : (Nat → Nat → Int64) × Bool × Nat × Nat} {m : Nat → Nat → Int32} {p b t : Nat} (ht : t < 4) : zF σ 1 602 [.ref 43, .int (Int32.ofNat t)] (zS1, XP m p b, yy) (.inl (some (.ref (43 + 10 + 7 * t)))) (zS1, XP m p b, yy) := xc_strandAt (m := XP m p b) (b := 43) bb43 ht
theorem XP_wo {m : Nat → Nat → Int32} {p b : Nat} {l w : Int32} : ∀ n k, k + n = 4 → xl_wordOther (XP m p b) 43 l w n k = xl_wordOther m 43 l w n k := by
  intro n
  induction n with
  | zero => intro k _; rfl
  | succ n ih =>
    intro k hk
    unfold xl_wordOther
    rw [XP_ne (by omega), ih (k + 1) (by omega)]
theorem yc_isWordOfOther {σ : Nat → Nat × (Nat → Int32)} {yy : (Nat → Nat → Int64) × Bool × Nat × Nat} {m : Nat → Nat → Int32} {p b : Nat} {l w : Int32} : zF σ 2 631 [.ref 43, .int l, .int w] (zS1, XP m p b, yy) (.inl (some (.int (x_isWordOfOther m 43 l w)))) (zS1, XP m p b, yy) := by
  have h := xc_isWordOfOther (σ := σ) (yy := yy) (m := XP m p b) (b := 43) (l := l) (w := w) bb43
  have e : x_isWordOfOther (XP m p b) 43 l w = x_isWordOfOther m 43 l w := XP_wo 4 0 rfl
  rw [e] at h
  exact h
theorem XP_close {m : Nat → Nat → Int32} {p b t : Nat} (ht : t < 4) : x_close (XP m p b) 43 t = XP (x_close m 43 t) p b := by
  unfold x_close
  rw [XP_put _ _ _ _ _ (by omega), XP_put _ _ _ _ _ (by omega), XP_put _ _ _ _ _ (by omega), XP_put _ _ _ _ _ (by omega), XP_put _ _ _ _ _ (by omega)]
theorem XP_clearL {p b t : Nat} (ht : t < 4) : ∀ n k (m : Nat → Nat → Int32), xl_clear 43 t n k (XP m p b) = XP (xl_clear 43 t n k m) p b := by
  intro n
  induction n with
  | zero => intro k m; exact XP_close ht
  | succ n ih =>
    intro k m
    unfold xl_clear
    rw [XP_put _ _ _ _ _ (by omega), ih]
theorem XP_clear {m : Nat → Nat → Int32} {p b t : Nat} (ht : t < 4) : x_clear (XP m p b) 43 t = XP (x_clear m 43 t) p b := by
  unfold x_clear
  rw [XP_put _ _ _ _ _ (by omega), XP_put _ _ _ _ _ (by omega), XP_put _ _ _ _ _ (by omega), XP_put _ _ _ _ _ (by omega), XP_put _ _ _ _ _ (by omega), XP_put _ _ _ _ _ (by omega), XP_clearL ht]
theorem yc_clear {σ : Nat → Nat × (Nat → Int32)} {yy : (Nat → Nat → Int64) × Bool × Nat × Nat} {m : Nat → Nat → Int32} {p b t : Nat} (ht : t < 4) : zF σ 2 1202 [.ref (43 + 10 + 7 * t)] (zS1, XP m p b, yy) (.inl none) (zS1, XP (x_clear m 43 t) p b, yy) := by
  have h := xc_clear (σ := σ) (yy := yy) (m := XP m p b) (b := 43) (t := t) bb43 ht
  rw [XP_clear ht] at h
  exact h
theorem XP_ad {m : Nat → Nat → Int32} {p b t : Nat} {x y : Int32} (ht : t < 4) : x_addDeed (XP m p b) 43 t x y = XP (x_addDeed m 43 t x y) p b := by
  have e : mv (XP m p b) (43 + 10 + 7 * t) 2 = mv m (43 + 10 + 7 * t) 2 := by
    unfold mv
    rw [XP_ne (by omega)]
  unfold x_addDeed
  rw [e]
  cases zc2 .ge (Int32.ofNat (mv m (43 + 10 + 7 * t) 2)) (Int32.ofNat 24) with
  | true => rfl
  | false =>
    rw [cond_false, cond_false, XP_put _ _ _ _ _ (by omega), XP_put _ _ _ _ _ (by omega), XP_put _ _ _ _ _ (by omega)]
theorem yc_addDeed {σ : Nat → Nat × (Nat → Int32)} {yy : (Nat → Nat → Int64) × Bool × Nat × Nat} {m : Nat → Nat → Int32} {p b t : Nat} {x y : Int32} (ht : t < 4) (h2 : okm m (43 + 10 + 7 * t) 2 24) : zF σ 1 1203 [.ref (43 + 10 + 7 * t), .int x, .int y] (zS1, XP m p b, yy) (.inl none) (zS1, XP (x_addDeed m 43 t x y) p b, yy) := by
  have h2' : okm (XP m p b) (43 + 10 + 7 * t) 2 24 := by
    unfold okm mv at *
    rw [XP_ne (by omega)]
    exact h2
  have h := xc_addDeed (σ := σ) (yy := yy) (m := XP m p b) (b := 43) (t := t) (x := x) (y := y) bb43 ht h2'.1 h2'.2
  rw [XP_ad ht] at h
  exact h
theorem yl_num_le {T : Nat → Int32} {e b : Nat} {lo hi : Int32} (he : e ≤ 400) : ∀ n v p, p ≤ e → p ≤ (yl_num T e b lo hi n v p).2 ∧ (yl_num T e b lo hi n v p).2 ≤ e := by
  have fin : ∀ (c1 c2 c3 c4 : Bool) (v : Int32) (p : Nat), p ≤ e → p ≤ (bif c1 then ((-1 : Int32), p) else bif c2 then (-1, p) else bif c3 then (-1, p) else bif c4 then (-1, p) else (v, p)).2 ∧ (bif c1 then ((-1 : Int32), p) else bif c2 then (-1, p) else bif c3 then (-1, p) else bif c4 then (-1, p) else (v, p)).2 ≤ e := by
    intro c1 c2 c3 c4 v p h
    cases c1 <;> cases c2 <;> cases c3 <;> cases c4 <;> exact ⟨Nat.le_refl _, h⟩
  intro n
  induction n with
  | zero => intro v p h; unfold yl_num; exact fin _ _ _ _ v p h
  | succ n ih =>
    intro v p h
    unfold yl_num
    refine cnd4 (fun X : Int32 × Nat => p ≤ X.2 ∧ X.2 ≤ e) (fun _ => fin _ _ _ _ v p h) (fun h1 => cnd4 (fun X : Int32 × Nat => p ≤ X.2 ∧ X.2 ≤ e) (fun _ => fin _ _ _ _ v p h) (fun _ => cnd4 (fun X : Int32 × Nat => p ≤ X.2 ∧ X.2 ≤ e) (fun _ => fin _ _ _ _ v p h) (fun _ => ?_)))
    have := tge_f (by omega) (by omega) h1
    have k : ∀ v, p ≤ (yl_num T e b lo hi n v (p + 1)).2 ∧ (yl_num T e b lo hi n v (p + 1)).2 ≤ e := fun v => by
      have := ih v (p + 1) (by omega)
      exact ⟨by omega, this.2⟩
    exact cnd4 (fun X : Int32 × Nat => p ≤ X.2 ∧ X.2 ≤ e) (fun _ => k _) (fun _ => k _)
theorem yl_num_v {T : Nat → Int32} {e b : Nat} {lo hi : Int32} : ∀ n v p, (yl_num T e b lo hi n v p).1 = -1 ∨ (lo ≤ (yl_num T e b lo hi n v p).1 ∧ (yl_num T e b lo hi n v p).1 ≤ hi) := by
  have fin : ∀ (c1 c2 : Bool) (v : Int32) (p : Nat), (bif c1 then ((-1 : Int32), p) else bif c2 then (-1, p) else bif zc2 .lt v lo then (-1, p) else bif zc2 .gt v hi then (-1, p) else (v, p)).1 = -1 ∨ (lo ≤ (bif c1 then ((-1 : Int32), p) else bif c2 then (-1, p) else bif zc2 .lt v lo then (-1, p) else bif zc2 .gt v hi then (-1, p) else (v, p)).1 ∧ (bif c1 then ((-1 : Int32), p) else bif c2 then (-1, p) else bif zc2 .lt v lo then (-1, p) else bif zc2 .gt v hi then (-1, p) else (v, p)).1 ≤ hi) := by
    intro c1 c2 v p
    cases c1 with
    | true => exact Or.inl rfl
    | false =>
    cases c2 with
    | true => exact Or.inl rfl
    | false =>
    cases h3 : zc2 .lt v lo with
    | true => exact Or.inl rfl
    | false =>
    cases h4 : zc2 .gt v hi with
    | true => exact Or.inl rfl
    | false => exact Or.inr ⟨Int32.not_lt.mp (of_decide_eq_false h3), Int32.not_lt.mp (of_decide_eq_false h4)⟩
  intro n
  induction n with
  | zero => intro v p; unfold yl_num; exact fin _ _ v p
  | succ n ih =>
    intro v p
    unfold yl_num
    refine cnd4 (fun X : Int32 × Nat => X.1 = -1 ∨ (lo ≤ X.1 ∧ X.1 ≤ hi)) (fun _ => fin _ _ v p) (fun _ => cnd4 (fun X : Int32 × Nat => X.1 = -1 ∨ (lo ≤ X.1 ∧ X.1 ≤ hi)) (fun _ => fin _ _ v p) (fun _ => cnd4 (fun X : Int32 × Nat => X.1 = -1 ∨ (lo ≤ X.1 ∧ X.1 ≤ hi)) (fun _ => fin _ _ v p) (fun _ => cnd4 (fun X : Int32 × Nat => X.1 = -1 ∨ (lo ≤ X.1 ∧ X.1 ≤ hi)) (fun _ => ih _ _) (fun _ => ih _ _))))
theorem ynum_le {T : Nat → Int32} {e p : Nat} {lo hi : Int32} (he : e ≤ 400) (h : p ≤ e) : lkB T e p ≤ (y_readNumber T e p lo hi).2.1 ∧ (y_readNumber T e p lo hi).2.1 ≤ e ∧ (y_readNumber T e p lo hi).2.2 = lkB T e p := by
  have h1 := yl_num_le (T := T) (b := lkB T e p) (lo := lo) (hi := hi) he (e - lkB T e p) (Int32.ofNat 0) (lkB T e p) (lkB_le he h).2
  exact ⟨h1.1, h1.2, rfl⟩
theorem ynum_k {T : Nat → Int32} {e p a c : Nat} (hc : c ≤ 100000) (ha : a ≤ 100000) (h : ¬ (y_readNumber T e p (Int32.ofNat a) (Int32.ofNat c)).1 = -1) : (y_readNumber T e p (Int32.ofNat a) (Int32.ofNat c)).1 = Int32.ofNat (y_readNumber T e p (Int32.ofNat a) (Int32.ofNat c)).1.toNatClampNeg ∧ (y_readNumber T e p (Int32.ofNat a) (Int32.ofNat c)).1.toNatClampNeg ≤ c ∧ a ≤ (y_readNumber T e p (Int32.ofNat a) (Int32.ofNat c)).1.toNatClampNeg := by
  rcases yl_num_v (T := T) (e := e) (b := lkB T e p) (lo := Int32.ofNat a) (hi := Int32.ofNat c) (e - lkB T e p) (Int32.ofNat 0) (lkB T e p) with h1 | ⟨h1, h2⟩
  · exact absurd h1 h
  · exact nat_btw hc ha h1 h2
theorem ynameA_le {T : Nat → Int32} {e b s : Nat} (he : e ≤ 400) : ∀ n p, p ≤ e → p ≤ (yl_nameA T e b s n p).2 ∧ (yl_nameA T e b s n p).2 ≤ e := by
  intro n
  induction n with
  | zero => intro p h; exact ⟨Nat.le_refl _, h⟩
  | succ n ih =>
    intro p h
    unfold yl_nameA
    refine cnd4 (fun X : Int32 × Nat => p ≤ X.2 ∧ X.2 ≤ e) (fun _ => ⟨Nat.le_refl _, h⟩) (fun h1 => cnd4 (fun X : Int32 × Nat => p ≤ X.2 ∧ X.2 ≤ e) (fun _ => ⟨Nat.le_refl _, h⟩) (fun _ => cnd4 (fun X : Int32 × Nat => p ≤ X.2 ∧ X.2 ≤ e) (fun _ => ⟨Nat.le_refl _, h⟩) (fun _ => ?_)))
    have := tge_f (by omega) (by omega) h1
    have := ih (p + 1) (by omega)
    exact ⟨by omega, this.2⟩
theorem yname_le {T : Nat → Int32} {e p s : Nat} (he : e ≤ 400) (h : p ≤ e) : (y_readName T e p s).2.1 ≤ e ∧ (y_readName T e p s).2.2 ≤ (y_readName T e p s).2.1 := by
  have h1 := ynameA_le (T := T) (b := lkB T e p) (s := s) he (e - lkB T e p) (lkB T e p) (lkB_le he h).2
  exact ⟨h1.2, h1.1⟩
theorem yskip_le {T : Nat → Int32} {e p c : Nat} (he : e ≤ 400) (h : p ≤ e) : p ≤ (y_skipSign T e p c).2 ∧ (y_skipSign T e p c).2 ≤ e := by
  unfold y_skipSign
  refine cnd4 (fun X : Int32 × Nat => p ≤ X.2 ∧ X.2 ≤ e) (fun _ => ⟨Nat.le_refl _, h⟩) (fun h1 => cnd4 (fun X : Int32 × Nat => p ≤ X.2 ∧ X.2 ≤ e) (fun _ => ⟨Nat.le_refl _, h⟩) (fun _ => ?_))
  have := tge_f (by omega) (by omega) h1
  exact ⟨by omega, by omega⟩
/-- what a reading of the class leaves -/
def YB (T : Nat → Int32) (e : Nat) (X : Int32 × (Nat → Nat → Int32) × Nat × Nat) : Prop := XR X.2.1 T e ∧ X.2.2.1 ≤ e ∧ X.2.2.2 ≤ X.2.2.1 ∧ (X.1 = 0 ∨ X.1 = 1)
theorem YB.mk {T : Nat → Int32} {e : Nat} {v : Int32} {m : Nat → Nat → Int32} {p b : Nat} (h0 : XR m T e) (h1 : p ≤ e) (h2 : b ≤ p) (h3 : v = 0 ∨ v = 1) : YB T e (v, m, p, b) := ⟨h0, h1, h2, h3⟩
theorem YB.eta {T : Nat → Int32} {e : Nat} {X : Int32 × (Nat → Nat → Int32) × Nat × Nat} (h : YB T e X) : YB T e (X.1, X.2.1, X.2.2.1, X.2.2.2) := h
theorem YB.num {T : Nat → Int32} {e p : Nat} {lo hi v : Int32} {m : Nat → Nat → Int32} (h0 : XR m T e) (hp : p ≤ e) (hv : v = 0 ∨ v = 1) : YB T e (v, m, (y_readNumber T e p lo hi).2.1, (y_readNumber T e p lo hi).2.2) := by
  have h := ynum_le (T := T) (lo := lo) (hi := hi) h0.2.2 hp
  exact YB.mk h0 h.2.1 (by rw [h.2.2]; exact h.1) hv
