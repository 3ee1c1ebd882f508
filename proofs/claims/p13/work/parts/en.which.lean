/-! which name comes next: alike -/
noncomputable def spl : List (List Int32) → List Int32
  | [] => []
  | [w] => w
  | w :: v :: vs => w ++ Int32.ofNat 32 :: spl (v :: vs)
noncomputable def nmL (T : Nat → Int32) (p b : Nat) : List (List Int32) → Nat → Int32
  | [], _ => -1
  | w :: ws, nm => bif mtc T w b p then Int32.ofNat nm else nmL T p b ws (nm + 1)
noncomputable def nbl (ws : List (List Int32)) : Bool := ws.all (fun w => w.all (fun c => !(c == Int32.ofNat 32)))
theorem nbl_w {ws : List (List Int32)} (h : nbl ws = true) {w : List Int32} (hw : w ∈ ws) : ∀ c, c ∈ w → c ≠ Int32.ofNat 32 := by
  intro c hc e
  have h1 := List.all_eq_true.mp (List.all_eq_true.mp h w hw) c hc
  rw [e] at h1
  exact absurd h1 (by decide)
theorem nmF_spl {T : Nat → Int32} {p b : Nat} (hp : p < 100000) (hb : b ≤ p) : ∀ (ws : List (List Int32)) (nm : Nat), (∀ w, w ∈ ws → ∀ c, c ∈ w → c ≠ Int32.ofNat 32) → ws ≠ [] → nmF T p b (spl ws) nm b (Int32.ofNat 0) = nmL T p b ws nm := by
  intro ws
  induction ws with
  | nil => intro nm _ h; exact absurd rfl h
  | cons w ws ih =>
    intro nm hw _
    have hw1 := hw w (List.mem_cons_self ..)
    cases ws with
    | nil =>
      have q := nmF_w (T := T) (b := b) (r := []) (Or.inl rfl) hp w nm b hw1 hb
      rw [List.append_nil] at q
      exact q
    | cons v vs =>
      have q := nmF_w (T := T) (b := b) (r := Int32.ofNat 32 :: spl (v :: vs)) (Or.inr ⟨_, rfl⟩) hp w nm b hw1 hb
      have q2 := ih (nm + 1) (fun u hu => hw u (List.mem_cons_of_mem _ hu)) (by simp)
      have q3 : nmE T p b (Int32.ofNat 32 :: spl (v :: vs)) nm = nmL T p b (v :: vs) (nm + 1) := q2
      rw [q3] at q
      exact q
theorem mtc_uniq {T : Nat → Int32} : ∀ (w v : List Int32) (sm p : Nat), mtc T w sm p = true → mtc T v sm p = true → w = v := by
  intro w
  induction w with
  | nil =>
    intro v sm p h1 h2
    cases v with
    | nil => rfl
    | cons d v =>
      have a := of_decide_eq_true (show decide (sm = p) = true from h1)
      rw [mtc, Bool.and_eq_true, Bool.and_eq_true] at h2
      have c := of_decide_eq_true h2.1.1
      omega
  | cons c w ih =>
    intro v sm p h1 h2
    rw [mtc, Bool.and_eq_true, Bool.and_eq_true] at h1
    have a := of_decide_eq_true h1.1.1
    cases v with
    | nil =>
      have c := of_decide_eq_true (show decide (sm = p) = true from h2)
      omega
    | cons d v =>
      rw [mtc, Bool.and_eq_true, Bool.and_eq_true] at h2
      have e1 := of_decide_eq_true h1.1.2
      have e2 := of_decide_eq_true h2.1.2
      rw [ih v _ _ h1.2 h2.2, ← e1, ← e2]
theorem nmL_c {T : Nat → Int32} {p b : Nat} : ∀ (ws : List (List Int32)) (nm : Nat), (nmL T p b ws nm = -1 ∧ ∀ w, w ∈ ws → mtc T w b p = false) ∨ ∃ i w, ws[i]? = some w ∧ nmL T p b ws nm = Int32.ofNat (nm + i) ∧ mtc T w b p = true := by
  intro ws
  induction ws with
  | nil => intro nm; exact Or.inl ⟨rfl, fun w hw => absurd hw (List.not_mem_nil)⟩
  | cons w ws ih =>
    intro nm
    cases hm : mtc T w b p with
    | true =>
      refine Or.inr ⟨0, w, rfl, ?_, hm⟩
      rw [nmL, hm]
      rfl
    | false =>
      rcases ih (nm + 1) with ⟨a, c⟩ | ⟨i, v, a, c, d⟩
      · refine Or.inl ⟨?_, fun u hu => ?_⟩
        · rw [nmL, hm, cnF]; exact a
        · rcases List.mem_cons.mp hu with rfl | hu
          · exact hm
          · exact c u hu
      · refine Or.inr ⟨i + 1, v, a, ?_, d⟩
        rw [nmL, hm, cnF, c, show nm + (i + 1) = nm + 1 + i by omega]
noncomputable def ln0 : List Nat := [25, 14, 15, 16, 17, 18, 19, 20, 24, 22, 26, 27, 23, 21]
noncomputable def ln2 : List Nat := [5, 6, 7, 8, 9, 10, 11, 12]
theorem zby_0 : zby 0 = spl (ln0.map zby) := by decide +kernel
theorem zby_2 : zby 2 = spl (ln2.map zby) := by decide +kernel
theorem zby_1 : zby 1 = spl [zby 13] := by decide +kernel
theorem nbl_0 : nbl (ln0.map zby) = true := by decide +kernel
theorem nbl_2 : nbl (ln2.map zby) = true := by decide +kernel
theorem nbl_1 : nbl [zby 13] = true := by decide +kernel
theorem zby_l : (List.range 28).all (fun s => (List.range 28).all (fun u => Nat.blt s 5 || Nat.blt u 5 || Nat.beq s 13 || Nat.beq u 13 || !(zby s == zby u) || Nat.beq s u)) = true := by decide +kernel
theorem zby_i (s : Nat) (hs : s < 28) (u : Nat) (hu : u < 28) (h5 : 5 ≤ s) (k5 : 5 ≤ u) (h13 : s ≠ 13) (k13 : u ≠ 13) (e : zby s = zby u) : s = u := by
  have a := List.all_eq_true.mp (List.all_eq_true.mp zby_l s (List.mem_range.mpr hs)) u (List.mem_range.mpr hu)
  rw [Bool.or_eq_true, Bool.or_eq_true, Bool.or_eq_true, Bool.or_eq_true, Bool.or_eq_true] at a
  rcases a with ((((a | a) | a) | a) | a) | a
  · have : s < 5 := Nat.le_of_ble_eq_true a
    omega
  · have : u < 5 := Nat.le_of_ble_eq_true a
    omega
  · exact absurd (Nat.eq_of_beq_eq_true a) h13
  · exact absurd (Nat.eq_of_beq_eq_true a) k13
  · rw [e, beq_self_eq_true] at a
    exact absurd a (by decide)
  · exact Nat.eq_of_beq_eq_true a
theorem ln0_in : ∀ s, s < 28 → 14 ≤ s → s ∈ ln0 := by decide
theorem ln2_in : ∀ s, s < 13 → 5 ≤ s → s ∈ ln2 := by decide
theorem ln0_b : ∀ s, s ∈ ln0 → 14 ≤ s ∧ s < 28 := by decide
theorem ln2_b : ∀ s, s ∈ ln2 → 5 ≤ s ∧ s < 13 := by decide
theorem mtc_x {T : Nat → Int32} {p b s u : Nat} (hs : s < 28) (hu : u < 28) (h5 : 5 ≤ s) (k5 : 5 ≤ u) (h13 : s ≠ 13) (k13 : u ≠ 13) (h : mtc T (zby s) b p = true) : mtc T (zby u) b p = decide (u = s) := by
  by_cases e : u = s
  · rw [decide_eq_true e, e]; exact h
  · rw [decide_eq_false e]
    cases hm : mtc T (zby u) b p with
    | false => rfl
    | true => exact absurd (zby_i u hu s hs k5 h5 k13 h13 (mtc_uniq _ _ _ _ hm h)) e
/-- of a line: no name, or one -/
theorem name0 {T : Nat → Int32} {p b : Nat} (hp : p < 100000) (hb : b ≤ p) : (nmF T p b (zby 0) 0 b (Int32.ofNat 0) = -1 ∧ ∀ s, 14 ≤ s → s < 28 → mtc T (zby s) b p = false) ∨ ∃ K s, ln0[K]? = some s ∧ nmF T p b (zby 0) 0 b (Int32.ofNat 0) = Int32.ofNat K ∧ ∀ u, 14 ≤ u → u < 28 → mtc T (zby u) b p = decide (u = s) := by
  rw [zby_0, nmF_spl hp hb _ _ (fun w hw => nbl_w nbl_0 hw) (by decide)]
  rcases nmL_c (T := T) (p := p) (b := b) (ln0.map zby) 0 with ⟨a, c⟩ | ⟨i, w, a, c, d⟩
  · exact Or.inl ⟨a, fun s h1 h2 => c _ (List.mem_map_of_mem (ln0_in s h2 h1))⟩
  · rw [List.getElem?_map] at a
    obtain ⟨s, a1, a2⟩ := Option.map_eq_some_iff.mp a
    have hs := ln0_b s (List.mem_of_getElem? a1)
    rw [Nat.zero_add] at c
    rw [← a2] at d
    exact Or.inr ⟨i, s, a1, c, fun u h1 h2 => mtc_x (by omega) (by omega) (by omega) (by omega) (by omega) (by omega) d⟩
theorem name2 {T : Nat → Int32} {p b : Nat} (hp : p < 100000) (hb : b ≤ p) : (nmF T p b (zby 2) 0 b (Int32.ofNat 0) = -1 ∧ ∀ s, 5 ≤ s → s < 13 → mtc T (zby s) b p = false) ∨ ∃ K s, ln2[K]? = some s ∧ nmF T p b (zby 2) 0 b (Int32.ofNat 0) = Int32.ofNat K ∧ ∀ u, 5 ≤ u → u < 13 → mtc T (zby u) b p = decide (u = s) := by
  rw [zby_2, nmF_spl hp hb _ _ (fun w hw => nbl_w nbl_2 hw) (by decide)]
  rcases nmL_c (T := T) (p := p) (b := b) (ln2.map zby) 0 with ⟨a, c⟩ | ⟨i, w, a, c, d⟩
  · exact Or.inl ⟨a, fun s h1 h2 => c _ (List.mem_map_of_mem (ln2_in s h2 h1))⟩
  · rw [List.getElem?_map] at a
    obtain ⟨s, a1, a2⟩ := Option.map_eq_some_iff.mp a
    have hs := ln2_b s (List.mem_of_getElem? a1)
    rw [Nat.zero_add] at c
    rw [← a2] at d
    exact Or.inr ⟨i, s, a1, c, fun u h1 h2 => mtc_x (by omega) (by omega) (by omega) (by omega) (by omega) (by omega) d⟩
theorem name1 {T : Nat → Int32} {p b : Nat} (hp : p < 100000) (hb : b ≤ p) : nmF T p b (zby 1) 0 b (Int32.ofNat 0) = (bif mtc T (zby 13) b p then Int32.ofNat 0 else -1) := by
  rw [zby_1, nmF_spl hp hb _ _ (fun w hw => nbl_w nbl_1 hw) (by decide)]
  rfl
section ZWN
variable {T : Nat → Int32} {e p b : Nat} {mm : Nat → Nat → Int32} {W : Nat → Int32}
/-- what the reference finds there -/
noncomputable def wsT (mm : Nat → Nat → Int32) (p b s : Nat) : Prop := zc1 .eq (q_isWord mm p b s) = false ∧ zc1 .ne (q_isWord mm p b s) = true
noncomputable def wsF (mm : Nat → Nat → Int32) (p b s : Nat) : Prop := zc1 .eq (q_isWord mm p b s) = true ∧ zc1 .ne (q_isWord mm p b s) = false
theorem ws_of (h : PA T e mm) (hb : b ≤ p) (hp : p ≤ e) {s : Nat} (hs : s < 37) : (mtc T (zby s) b p = true → wsT mm p b s) ∧ (mtc T (zby s) b p = false → wsF mm p b s) := by
  have h2 := h.2.1
  have hl := zby_len s hs
  have q := isWord_eq (T := T) (mm := mm) (b := b) (p := p) (s := s) (fun q _ h2 => h.2.2 q (by omega)) hb (by omega) (by omega)
  refine ⟨fun hm => ?_, fun hm => ?_⟩
  · rw [hm, cnT] at q
    unfold wsT
    rw [q]
    exact ⟨zeq1', zn1⟩
  · rw [hm, cnF] at q
    unfold wsF
    rw [q]
    exact ⟨zeq0, zne0⟩
theorem kind_0 (hn : ∀ s, 5 ≤ s → s < 13 → wsF mm p b s) : q_kindHere mm p b = -1 := by
  unfold q_kindHere
  simp only [(hn 5 (by omega) (by omega)).1, (hn 6 (by omega) (by omega)).1, (hn 7 (by omega) (by omega)).1, (hn 8 (by omega) (by omega)).1, (hn 9 (by omega) (by omega)).1, (hn 10 (by omega) (by omega)).1, (hn 11 (by omega) (by omega)).1, (hn 12 (by omega) (by omega)).1, cnT]
theorem kind_K {K s : Nat} (hK : ln2[K]? = some s) (hT : wsT mm p b s) (hn : ∀ u, 5 ≤ u → u < 13 → u ≠ s → wsF mm p b u) : q_kindHere mm p b = Int32.ofNat K := by
  unfold q_kindHere
  match K, hK with
  | 0, hK => cases hK; simp only [hT.1, cnF]
  | 1, hK => cases hK; simp only [(hn 5 (by omega) (by omega) (by omega)).1, hT.1, cnT, cnF]
  | 2, hK => cases hK; simp only [(hn 5 (by omega) (by omega) (by omega)).1, (hn 6 (by omega) (by omega) (by omega)).1, hT.1, cnT, cnF]
  | 3, hK => cases hK; simp only [(hn 5 (by omega) (by omega) (by omega)).1, (hn 6 (by omega) (by omega) (by omega)).1, (hn 7 (by omega) (by omega) (by omega)).1, hT.1, cnT, cnF]
  | 4, hK => cases hK; simp only [(hn 5 (by omega) (by omega) (by omega)).1, (hn 6 (by omega) (by omega) (by omega)).1, (hn 7 (by omega) (by omega) (by omega)).1, (hn 8 (by omega) (by omega) (by omega)).1, hT.1, cnT, cnF]
  | 5, hK => cases hK; simp only [(hn 5 (by omega) (by omega) (by omega)).1, (hn 6 (by omega) (by omega) (by omega)).1, (hn 7 (by omega) (by omega) (by omega)).1, (hn 8 (by omega) (by omega) (by omega)).1, (hn 9 (by omega) (by omega) (by omega)).1, hT.1, cnT, cnF]
  | 6, hK => cases hK; simp only [(hn 5 (by omega) (by omega) (by omega)).1, (hn 6 (by omega) (by omega) (by omega)).1, (hn 7 (by omega) (by omega) (by omega)).1, (hn 8 (by omega) (by omega) (by omega)).1, (hn 9 (by omega) (by omega) (by omega)).1, (hn 10 (by omega) (by omega) (by omega)).1, hT.1, cnT, cnF]
  | 7, hK => cases hK; simp only [(hn 5 (by omega) (by omega) (by omega)).1, (hn 6 (by omega) (by omega) (by omega)).1, (hn 7 (by omega) (by omega) (by omega)).1, (hn 8 (by omega) (by omega) (by omega)).1, (hn 9 (by omega) (by omega) (by omega)).1, (hn 10 (by omega) (by omega) (by omega)).1, (hn 11 (by omega) (by omega) (by omega)).1, hT.1, cnT, cnF]
  | k + 8, hK => exact absurd hK (by simp [ln2])
theorem term_0 (hn : ∀ s, 14 ≤ s → s < 21 → wsF mm p b s) : q_termHere mm p b = -1 := by
  unfold q_termHere
  simp only [(hn 14 (by omega) (by omega)).1, (hn 15 (by omega) (by omega)).1, (hn 16 (by omega) (by omega)).1, (hn 17 (by omega) (by omega)).1, (hn 18 (by omega) (by omega)).1, (hn 19 (by omega) (by omega)).1, (hn 20 (by omega) (by omega)).1, cnT]
theorem term_K {K : Nat} (h1 : 1 ≤ K) (h7 : K ≤ 7) (hT : wsT mm p b (13 + K)) (hn : ∀ u, 14 ≤ u → u < 21 → u ≠ 13 + K → wsF mm p b u) : q_termHere mm p b = Int32.ofNat K := by
  unfold q_termHere
  match K, h1, h7 with
  | 1, _, _ => simp only [hT.1, cnF]
  | 2, _, _ => simp only [(hn 14 (by omega) (by omega) (by omega)).1, hT.1, cnT, cnF]
  | 3, _, _ => simp only [(hn 14 (by omega) (by omega) (by omega)).1, (hn 15 (by omega) (by omega) (by omega)).1, hT.1, cnT, cnF]
  | 4, _, _ => simp only [(hn 14 (by omega) (by omega) (by omega)).1, (hn 15 (by omega) (by omega) (by omega)).1, (hn 16 (by omega) (by omega) (by omega)).1, hT.1, cnT, cnF]
  | 5, _, _ => simp only [(hn 14 (by omega) (by omega) (by omega)).1, (hn 15 (by omega) (by omega) (by omega)).1, (hn 16 (by omega) (by omega) (by omega)).1, (hn 17 (by omega) (by omega) (by omega)).1, hT.1, cnT, cnF]
  | 6, _, _ => simp only [(hn 14 (by omega) (by omega) (by omega)).1, (hn 15 (by omega) (by omega) (by omega)).1, (hn 16 (by omega) (by omega) (by omega)).1, (hn 17 (by omega) (by omega) (by omega)).1, (hn 18 (by omega) (by omega) (by omega)).1, hT.1, cnT, cnF]
  | 7, _, _ => simp only [(hn 14 (by omega) (by omega) (by omega)).1, (hn 15 (by omega) (by omega) (by omega)).1, (hn 16 (by omega) (by omega) (by omega)).1, (hn 17 (by omega) (by omega) (by omega)).1, (hn 18 (by omega) (by omega) (by omega)).1, (hn 19 (by omega) (by omega) (by omega)).1, hT.1, cnT, cnF]
/-- a line, by its name -/
theorem line_0 (hn : ∀ s, 14 ≤ s → s < 28 → wsF mm p b s) : q_readLine mm W p b = (Int32.ofNat 0, W, p, b) := by
  have ht := term_0 (mm := mm) (p := p) (b := b) (fun s h1 h2 => hn s h1 (by omega))
  unfold q_readLine
  rw [(hn 21 (by omega) (by omega)).1, cnT, (hn 22 (by omega) (by omega)).1, cnT, (hn 23 (by omega) (by omega)).1, cnT, (hn 24 (by omega) (by omega)).1, cnT, (hn 25 (by omega) (by omega)).1, cnT, (hn 26 (by omega) (by omega)).2, cnF, (hn 27 (by omega) (by omega)).1, cnT, ht, show zc2 .eq (-1 : Int32) (-1) = true from by decide, cnT]
theorem line_21 (hT : wsT mm p b 21) : q_readLine mm W p b = q_readThread mm W p b := by
  unfold q_readLine
  rw [hT.1, cnF]
theorem line_22 (hT : wsT mm p b 22) (hn : ∀ u, 14 ≤ u → u < 28 → u ≠ 22 → wsF mm p b u) : q_readLine mm W p b = q_readWordLine mm W p := by
  unfold q_readLine
  rw [(hn 21 (by omega) (by omega) (by omega)).1, cnT, hT.1, cnF]
theorem line_23 (hT : wsT mm p b 23) (hn : ∀ u, 14 ≤ u → u < 28 → u ≠ 23 → wsF mm p b u) : q_readLine mm W p b = q_readLock mm W p := by
  unfold q_readLine
  rw [(hn 21 (by omega) (by omega) (by omega)).1, cnT, (hn 22 (by omega) (by omega) (by omega)).1, cnT, hT.1, cnF]
theorem line_24 (hT : wsT mm p b 24) (hn : ∀ u, 14 ≤ u → u < 28 → u ≠ 24 → wsF mm p b u) : q_readLine mm W p b = q_readTrust mm W p := by
  unfold q_readLine
  rw [(hn 21 (by omega) (by omega) (by omega)).1, cnT, (hn 22 (by omega) (by omega) (by omega)).1, cnT, (hn 23 (by omega) (by omega) (by omega)).1, cnT, hT.1, cnF]
noncomputable def rt1 (X : Int32 × (Nat → Int32) × Nat × Nat) : Int32 × (Nat → Int32) × Nat × Nat := bif zc1 .eq X.1 then (Int32.ofNat 0, X.2.1, X.2.2.1, X.2.2.2) else (Int32.ofNat 1, X.2.1, X.2.2.1, X.2.2.2)
theorem line_25 (hT : wsT mm p b 25) (hn : ∀ u, 14 ≤ u → u < 28 → u ≠ 25 → wsF mm p b u) : q_readLine mm W p b = (bif zc1 .ne (q_threads W) then (Int32.ofNat 0, W, p, b) else rt1 (q_readTo mm W p 0 (Int32.ofNat 1) (Int32.ofNat 8))) := by
  unfold q_readLine rt1
  rw [(hn 21 (by omega) (by omega) (by omega)).1, cnT, (hn 22 (by omega) (by omega) (by omega)).1, cnT, (hn 23 (by omega) (by omega) (by omega)).1, cnT, (hn 24 (by omega) (by omega) (by omega)).1, cnT, hT.1, cnF]
theorem line_26 (hT : wsT mm p b 26) (hn : ∀ u, 14 ≤ u → u < 28 → u ≠ 26 → wsF mm p b u) : q_readLine mm W p b = (Int32.ofNat 1, upd W 8 (Int32.ofNat 1), p, b) := by
  unfold q_readLine
  rw [(hn 21 (by omega) (by omega) (by omega)).1, cnT, (hn 22 (by omega) (by omega) (by omega)).1, cnT, (hn 23 (by omega) (by omega) (by omega)).1, cnT, (hn 24 (by omega) (by omega) (by omega)).1, cnT, (hn 25 (by omega) (by omega) (by omega)).1, cnT, hT.2, cnT, hT.1, cnF]
theorem line_27 (hT : wsT mm p b 27) (hn : ∀ u, 14 ≤ u → u < 28 → u ≠ 27 → wsF mm p b u) : q_readLine mm W p b = (Int32.ofNat 1, upd W 8 (Int32.ofNat 0), p, b) := by
  unfold q_readLine
  rw [(hn 21 (by omega) (by omega) (by omega)).1, cnT, (hn 22 (by omega) (by omega) (by omega)).1, cnT, (hn 23 (by omega) (by omega) (by omega)).1, cnT, (hn 24 (by omega) (by omega) (by omega)).1, cnT, (hn 25 (by omega) (by omega) (by omega)).1, cnT, (hn 26 (by omega) (by omega) (by omega)).2, cnF, hT.1, cnF, (hn 26 (by omega) (by omega) (by omega)).1, cnT]
theorem line_t {K : Nat} (h1 : 1 ≤ K) (h7 : K ≤ 7) (hT : wsT mm p b (13 + K)) (hn : ∀ u, 14 ≤ u → u < 28 → u ≠ 13 + K → wsF mm p b u) : q_readLine mm W p b = rt1 (q_readTo mm W p K (q_leastOf K) (q_mostOf K)) := by
  have ht := term_K h1 h7 hT (fun u a1 a2 a3 => hn u a1 (by omega) a3)
  have hz : zc2 .eq (Int32.ofNat K) (-1) = false := by
    have z : ∀ k, k < 8 → zc2 .eq (Int32.ofNat k) (-1) = false := by decide +kernel
    exact z K (by omega)
  unfold q_readLine rt1
  rw [(hn 21 (by omega) (by omega) (by omega)).1, cnT, (hn 22 (by omega) (by omega) (by omega)).1, cnT, (hn 23 (by omega) (by omega) (by omega)).1, cnT, (hn 24 (by omega) (by omega) (by omega)).1, cnT, (hn 25 (by omega) (by omega) (by omega)).1, cnT, (hn 26 (by omega) (by omega) (by omega)).2, cnF, (hn 27 (by omega) (by omega) (by omega)).1, cnT, ht, hz, cnF, nv_on (by omega)]
end ZWN
