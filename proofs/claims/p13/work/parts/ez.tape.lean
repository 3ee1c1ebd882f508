/-! the tape, the image, a text that is told: alike -/
section ZTA
variable {m m' m1 M : Nat → Nat → Int32} {n x : Int32} {W : Nat → Int32} {N : Nat}
theorem LR.tape (h : LR m) (e : ∀ i l, (1 ≤ i ∧ i < 43) ∨ (85 ≤ i ∧ i < 127) ∨ (i = 0 ∧ (l = 3 ∨ l = 6)) ∨ (i = 137 ∧ (l = 4 ∨ l = 11)) ∨ i = 138 ∨ i = 139 → m' i l = m i l) (h5 : m' 0 5 = m' 137 7) (ht : ∀ k, k < mv m' 137 7 → m' 127 k = m' 141 k) : LR m' := by
  have r : ∀ i, i = 138 ∨ i = 139 → m' i = m i := fun i hi => funext (fun l => e i l (by omega))
  obtain ⟨⟨a1, a2⟩, a3, a4, a5, a6, a7, a8, a9⟩ := h
  refine ⟨?_, ?_, ?_, h5, ht, ?_, ?_, ?_⟩
  · rw [r 138 (by omega)]
    exact ⟨a1.far (fun i l h1 h2 => e i l (by omega)), a2⟩
  · rw [r 139 (by omega), e 137 4 (by omega)]
    rcases a3 with a3 | ⟨a3, b3⟩
    · exact Or.inl a3
    · exact Or.inr ⟨a3.far (fun i l h1 h2 => e i l (by omega)), b3⟩
  · rw [e 0 3 (by omega), e 137 4 (by omega)]; exact a4
  · rw [e 0 6 (by omega), e 137 11 (by omega)]; exact a7
  · rw [r 138 (by omega)]; exact a8
  · rw [r 139 (by omega), e 137 4 (by omega)]; exact a9
/-- one byte of a number, the highest first -/
noncomputable def byt (x : Int32) (r : Nat) : Int32 := vp_nar .byte (((x >>> ((Int32.ofNat (24 - 8 * r)) &&& 31))).toInt8.toInt32)
theorem feed1_at {r : Nat} (hr : r < 4) : e_feed1 m x N 127 (N + r) = byt x r := by
  unfold e_feed1
  match r, hr with
  | 0, _ => rw [zx_ne _ _ _ (by decide), zx_nk _ _ (by omega), zx_ne _ _ _ (by decide), zx_nk _ _ (by omega), zx_ne _ _ _ (by decide), zx_nk _ _ (by omega), zx_ne _ _ _ (by decide)]; exact zx_at _ _ _ _
  | 1, _ => rw [zx_ne _ _ _ (by decide), zx_nk _ _ (by omega), zx_ne _ _ _ (by decide), zx_nk _ _ (by omega), zx_ne _ _ _ (by decide)]; exact zx_at _ _ _ _
  | 2, _ => rw [zx_ne _ _ _ (by decide), zx_nk _ _ (by omega), zx_ne _ _ _ (by decide)]; exact zx_at _ _ _ _
  | 3, _ => rw [zx_ne _ _ _ (by decide)]; exact zx_at _ _ _ _
theorem feed1_ne {k : Nat} (h : k < N ∨ N + 4 ≤ k) : e_feed1 m x N 127 k = m 127 k := by
  unfold e_feed1
  rw [zx_ne _ _ _ (by decide), zx_nk _ _ (by omega), zx_ne _ _ _ (by decide), zx_nk _ _ (by omega), zx_ne _ _ _ (by decide), zx_nk _ _ (by omega), zx_ne _ _ _ (by decide), zx_nk _ _ (by omega)]
theorem feedL_b {a b c e f : Int32} {T : Nat} : ∀ (n k : Nat) (m : Nat → Nat → Int32), k + n = 20 → (∀ i, i < T + k → (l_feed a b c e f T n k m).2 141 i = m 141 i) ∧ ∀ j, k ≤ j → j < 20 → (l_feed a b c e f T n k m).2 141 (T + j) = byt (m 142 (j / 4)) (j % 4) := by
  intro n
  induction n with
  | zero =>
    intro k m hk
    refine ⟨fun i hi => ?_, fun j h1 h2 => by omega⟩
    show zm2 m 137 7 (Int32.ofNat (T + 20)) 141 i = m 141 i
    exact zx_ne _ _ _ (by decide)
  | succ n ih =>
    intro k m hk
    obtain ⟨i1, i2⟩ := ih (k + 1) (zm2 m 141 (T + k) (vp_nar .byte ((((m 142 (k / 4)) >>> ((Int32.ofNat (24 - (8 * (k % 4)))) &&& 31))).toInt8.toInt32))) (by omega)
    rw [l_feed]
    refine ⟨fun i hi => (i1 i (by omega)).trans (zx_nk _ _ (by omega)), fun j h1 h2 => ?_⟩
    by_cases e : j = k
    · subst e
      rw [i1 (T + j) (by omega), zx_at]
      rfl
    · rw [i2 j (by omega) h2, zx_ne _ _ _ (by decide)]
theorem feed_lr {a b c e f : Int32} (h : LR m) (hx : XI m) (hN : mv m 0 5 = N) (eM : M = (e_feed m a b c e f N).2) : LR (zrow (q_feed M a b c e f N).2 138 (m 138)) := by
  have h5 := hx.2.2.2.1
  have e5 : m 0 5 = Int32.ofNat N := by
    have q := h5.1
    rw [hN] at q
    exact q
  have n4 : N ≤ 400 := by
    have q := h5.2
    rw [hN] at q
    exact q
  have e7 : m 137 7 = Int32.ofNat N := h.2.2.2.1.symm.trans e5
  have fe : FG m (e_feed m a b c e f N).2 := (feed_x hx n4).2
  have fm : ∀ i l, 137 ≤ i → M i l = m i l := fun i l hi => (congrFun (congrFun eM i) l).trans (fe i l (by omega))
  have fx : ∀ i l, i < 137 → i ≠ 127 → (i ≠ 0 ∨ l ≠ 5) → M i l = m i l := fun i l h1 h2 h3 => (congrFun (congrFun eM i) l).trans (by
    unfold e_feed
    refine cndi (fun q : Int32 × (Nat → Nat → Int32) => q.2 i l = m i l) ?_ rfl
    dsimp only
    rw [feed1_i h2 h3, feed1_i h2 h3, feed1_i h2 h3, feed1_i h2 h3, feed1_i h2 h3])
  have t27 : M 127 = (e_feed m a b c e f N).2 127 := congrFun eM 127
  have u5 : M 0 5 = (e_feed m a b c e f N).2 0 5 := congrFun (congrFun eM 0) 5
  have r7 : (q_feed M a b c e f N).2 137 7 = (bif zc2 .le (Int32.ofNat (N + 20)) (Int32.ofNat 400) then Int32.ofNat (N + 20) else Int32.ofNat N) := by
    unfold q_feed
    cases zc2 .le (Int32.ofNat (N + 20)) (Int32.ofNat 400) with
    | true => rw [cnT, cnT]; exact (feedL_v 20 0 _).2.1
    | false =>
      rw [cnF, cnF]
      show zm2 M 137 0 (Int32.ofNat 0) 137 7 = Int32.ofNat N
      rw [zx_nk _ _ (by decide), fm 137 7 (by omega)]
      exact e7
  have r5 : (e_feed m a b c e f N).2 0 5 = (bif zc2 .le (Int32.ofNat (N + 20)) (Int32.ofNat 400) then Int32.ofNat (N + 20) else Int32.ofNat N) := by
    unfold e_feed
    cases zc2 .le (Int32.ofNat (N + 20)) (Int32.ofNat 400) with
    | true => rw [cnT, cnT]; dsimp only; exact feed1_5
    | false => rw [cnF, cnF]; exact e5
  have fq : ∀ i l, i ≠ 141 → i ≠ 142 → (i ≠ 137 ∨ (l ≠ 0 ∧ l ≠ 7)) → (q_feed M a b c e f N).2 i l = M i l := by
    intro i l h1 h2 h3
    unfold q_feed
    refine cndi (fun q : Int32 × (Nat → Nat → Int32) => q.2 i l = M i l) ?_ (zx_o _ _ (by omega))
    show (l_feed a b c e f N 20 0 (zm2 (zm2 (zm2 (zm2 (zm2 (zm2 M 137 0 (Int32.ofNat 0)) 142 0 a) 142 1 b) 142 2 c) 142 3 e) 142 4 f)).2 i l = M i l
    rw [(feedL_v 20 0 _).1 i l h1 (by omega), zx_ne _ _ _ h2, zx_ne _ _ _ h2, zx_ne _ _ _ h2, zx_ne _ _ _ h2, zx_ne _ _ _ h2, zx_o _ _ (by omega)]
  have zr : ∀ i, i ≠ 138 → zrow (q_feed M a b c e f N).2 138 (m 138) i = (q_feed M a b c e f N).2 i := fun i hi => if_neg hi
  refine h.tape (fun i l hi => ?_) ?_ ?_
  · by_cases q8 : i = 138
    · subst q8; exact congrFun (if_pos rfl) l
    · rw [zr i q8, fq i l (by omega) (by omega) (by omega)]
      by_cases hi2 : 137 ≤ i
      · exact fm i l hi2
      · exact fx i l (by omega) (by omega) (by omega)
  · rw [zr 0 (by omega), zr 137 (by omega), fq 0 5 (by omega) (by omega) (by omega), u5, r5, r7]
  · unfold mv
    rw [zr 127 (by omega), zr 137 (by omega), zr 141 (by omega), r7]
    intro k hk
    rw [fq 127 k (by omega) (by omega) (by omega), t27]
    have old : ∀ j, j < N → m 127 j = m 141 j := fun j hj => h.2.2.2.2.1 j (by unfold mv; rw [e7, nv_on (by omega)]; exact hj)
    unfold e_feed q_feed
    cases hc : zc2 .le (Int32.ofNat (N + 20)) (Int32.ofNat 400) with
    | false =>
      rw [hc, cnF, nv_on (by omega)] at hk
      rw [cnF, cnF]
      show m 127 k = zm2 M 137 0 (Int32.ofNat 0) 141 k
      rw [zx_ne _ _ _ (by decide), fm 141 k (by omega)]
      exact old k hk
    | true =>
      have n20 := tle_t (by omega) (by omega) hc
      rw [hc, cnT, nv_on (by omega)] at hk
      rw [cnT, cnT]
      dsimp only
      obtain ⟨l1, l2⟩ := feedL_b (a := a) (b := b) (c := c) (e := e) (f := f) (T := N) 20 0 (zm2 (zm2 (zm2 (zm2 (zm2 (zm2 M 137 0 (Int32.ofNat 0)) 142 0 a) 142 1 b) 142 2 c) 142 3 e) 142 4 f) rfl
      by_cases hk0 : k < N
      · rw [l1 k (by omega), zx_ne _ _ _ (by decide), zx_ne _ _ _ (by decide), zx_ne _ _ _ (by decide), zx_ne _ _ _ (by decide), zx_ne _ _ _ (by decide), zx_ne _ _ _ (by decide), fm 141 k (by omega), feed1_ne (by omega), feed1_ne (by omega), feed1_ne (by omega), feed1_ne (by omega), feed1_ne (by omega)]
        exact old k hk0
      · obtain ⟨j, rfl⟩ : ∃ j, k = N + j := ⟨k - N, by omega⟩
        rw [l2 j (by omega) (by omega)]
        have q0 : zm2 (zm2 (zm2 (zm2 (zm2 (zm2 M 137 0 (Int32.ofNat 0)) 142 0 a) 142 1 b) 142 2 c) 142 3 e) 142 4 f 142 0 = a := by
          rw [zx_nk _ _ (by decide), zx_nk _ _ (by decide), zx_nk _ _ (by decide), zx_nk _ _ (by decide), zx_at]
        have q1 : zm2 (zm2 (zm2 (zm2 (zm2 (zm2 M 137 0 (Int32.ofNat 0)) 142 0 a) 142 1 b) 142 2 c) 142 3 e) 142 4 f 142 1 = b := by
          rw [zx_nk _ _ (by decide), zx_nk _ _ (by decide), zx_nk _ _ (by decide), zx_at]
        have q2 : zm2 (zm2 (zm2 (zm2 (zm2 (zm2 M 137 0 (Int32.ofNat 0)) 142 0 a) 142 1 b) 142 2 c) 142 3 e) 142 4 f 142 2 = c := by
          rw [zx_nk _ _ (by decide), zx_nk _ _ (by decide), zx_at]
        have q3 : zm2 (zm2 (zm2 (zm2 (zm2 (zm2 M 137 0 (Int32.ofNat 0)) 142 0 a) 142 1 b) 142 2 c) 142 3 e) 142 4 f 142 3 = e := by
          rw [zx_nk _ _ (by decide), zx_at]
        have q4 : zm2 (zm2 (zm2 (zm2 (zm2 (zm2 M 137 0 (Int32.ofNat 0)) 142 0 a) 142 1 b) 142 2 c) 142 3 e) 142 4 f 142 4 = f := zx_at _ _ _ _
        have hr : j % 4 < 4 := Nat.mod_lt _ (by omega)
        have hd : j / 4 = 0 ∨ j / 4 = 1 ∨ j / 4 = 2 ∨ j / 4 = 3 ∨ j / 4 = 4 := by omega
        rcases hd with d | d | d | d | d
        · rw [d, q0, feed1_ne (by omega), feed1_ne (by omega), feed1_ne (by omega), feed1_ne (by omega), show N + j = N + j % 4 by omega]
          exact feed1_at hr
        · rw [d, q1, feed1_ne (by omega), feed1_ne (by omega), feed1_ne (by omega), show N + j = N + 4 + j % 4 by omega]
          exact feed1_at hr
        · rw [d, q2, feed1_ne (by omega), feed1_ne (by omega), show N + j = N + 8 + j % 4 by omega]
          exact feed1_at hr
        · rw [d, q3, feed1_ne (by omega), show N + j = N + 12 + j % 4 by omega]
          exact feed1_at hr
        · rw [d, q4, show N + j = N + 16 + j % 4 by omega]
          exact feed1_at hr
theorem end_lr (h : LR m) (g : ∀ i l, (i ≠ 0 ∨ l ≠ 5) → m1 i l = m i l) (g5 : m1 0 5 = (e_end m n).2 0 5) (n7 : (m 137 7).toInt ≤ 400 ∧ 0 ≤ (m 137 7).toInt) : LR (zrow (q_end m1 n).2 138 (m 138)) := by
  have zr : ∀ i, i ≠ 138 → zrow (q_end m1 n).2 138 (m 138) i = (q_end m1 n).2 i := fun i hi => if_neg hi
  have e7 : m1 137 7 = m 137 7 := g 137 7 (by omega)
  have fq : ∀ i l, (i ≠ 137 ∨ (l ≠ 0 ∧ l ≠ 7)) → (q_end m1 n).2 i l = m1 i l := by
    intro i l h1
    unfold q_end
    exact cndi (fun q : Int32 × (Nat → Nat → Int32) => q.2 i l = m1 i l) (zx_o _ _ (by omega)) (cndi (fun q : Int32 × (Nat → Nat → Int32) => q.2 i l = m1 i l) ((zx_o _ _ (by omega)).trans (zx_o _ _ (by omega))) (zx_o _ _ (by omega)))
  have r7 : (q_end m1 n).2 137 7 = (bif zc1 .lt n then m 137 7 else bif zc2 .le n (m 137 7) then n else m 137 7) := by
    unfold q_end
    rw [zx_nk _ _ (by decide), e7]
    cases zc1 .lt n with
    | true =>
      rw [cnT, cnT]
      show zm2 m1 137 0 (Int32.ofNat 0) 137 7 = m 137 7
      rw [zx_nk _ _ (by decide)]; exact e7
    | false =>
      rw [cnF, cnF]
      cases zc2 .le n (m 137 7) with
      | true =>
        rw [cnT, cnT]
        show zm2 (zm2 m1 137 0 (Int32.ofNat 0)) 137 7 n 137 7 = n
        exact zx_at _ _ _ _
      | false =>
        rw [cnF, cnF]
        show zm2 m1 137 0 (Int32.ofNat 0) 137 7 = m 137 7
        rw [zx_nk _ _ (by decide)]; exact e7
  have r5 : (e_end m n).2 0 5 = (bif zc1 .lt n then m 0 5 else bif zc2 .le n (m 0 5) then n else m 0 5) := by
    unfold e_end
    cases zc1 .lt n with
    | true => rw [cnT, cnT]
    | false =>
      rw [cnF, cnF]
      cases zc2 .le n (m 0 5) with
      | true =>
        rw [cnT, cnT]
        show zm2 m 0 5 n 0 5 = n
        exact zx_at _ _ _ _
      | false => rw [cnF, cnF]
  refine h.tape (fun i l hi => ?_) ?_ ?_
  · by_cases q8 : i = 138
    · subst q8; exact congrFun (if_pos rfl) l
    · rw [zr i q8, fq i l (by omega)]
      exact g i l (by omega)
  · rw [zr 0 (by omega), zr 137 (by omega), fq 0 5 (by omega), g5, r5, r7, h.2.2.2.1]
  · unfold mv
    rw [zr 127 (by omega), zr 137 (by omega), zr 141 (by omega), r7]
    intro k hk
    rw [fq 127 k (by omega), fq 141 k (by omega), g 127 k (by omega), g 141 k (by omega)]
    refine h.2.2.2.2.1 k ?_
    unfold mv
    cases h1 : zc1 .lt n with
    | true => rw [h1, cnT] at hk; exact hk
    | false =>
      cases h2 : zc2 .le n (m 137 7) with
      | false => rw [h1, h2, cnF, cnF] at hk; exact hk
      | true =>
        rw [h1, h2, cnF, cnT] at hk
        have a := of_decide_eq_true h2
        rw [Int32.le_iff_toInt_le] at a
        have b1 : n.toNatClampNeg = n.toInt.toNat := rfl
        have b2 : (m 137 7).toNatClampNeg = (m 137 7).toInt.toNat := rfl
        omega
theorem image_lr (h : LR m) (hx : XI m) (g : ∀ i, M i = (e_image m) i) : LR (zrow (q_image M (m 138)) 138 (m 138)) := by
  have gM : M = e_image m := funext g
  subst gM
  have f : FB (x_copyFrom m 85 1) 85 m := FB.copy (Or.inr (by omega)) hx.1.1 FB.refl
  have e3 : e_image m 0 3 = Int32.ofNat 1 := zx_at _ _ _ _
  have ei : ∀ i l, (i < 85 ∨ 127 ≤ i) → (i ≠ 0 ∨ l ≠ 3) → e_image m i l = m i l := fun i l h1 h2 => (zx_o _ _ (by omega)).trans (f i l (by omega))
  have zr : ∀ i, i ≠ 138 → zrow (q_image (e_image m) (m 138)) 138 (m 138) i = q_image (e_image m) (m 138) i := fun i hi => if_neg hi
  have s8 : zrow (q_image (e_image m) (m 138)) 138 (m 138) 138 = m 138 := if_pos rfl
  have q9 : ∀ k, k < 788 → q_image (e_image m) (m 138) 139 k = m 138 k := fun k hk => crow_of _ _ k hk
  have qi : ∀ i l, i ≠ 139 → (i ≠ 137 ∨ (l ≠ 0 ∧ l ≠ 4)) → q_image (e_image m) (m 138) i l = e_image m i l := by
    intro i l h1 h2
    unfold q_image
    rw [zx_o _ _ (by omega), show zrow (zm2 (e_image m) 137 0 (Int32.ofNat 0)) 139 (crow (m 138) (zm2 (e_image m) 137 0 (Int32.ofNat 0) 139)) i l = zm2 (e_image m) 137 0 (Int32.ofNat 0) i l from congrFun (if_neg h1) l, zx_o _ _ (by omega)]
  have q4 : q_image (e_image m) (m 138) 137 4 = Int32.ofNat 1 := zx_at _ _ _ _
  obtain ⟨⟨a1, a2⟩, a3, a4, a5, a6, a7, a8, a9⟩ := h
  refine ⟨?_, ?_, ?_, ?_, ?_, ?_, ?_, ?_⟩
  · rw [s8]
    refine ⟨a1.far (fun i l h1 h2 => ?_), a2⟩
    rw [zr i (by omega), qi i l (by omega) (by omega)]
    exact ei i l (by omega) (by omega)
  · refine Or.inr ⟨?_, ?_⟩
    · rw [zr 139 (by omega)]
      refine ((a1.copy (b := 85) a2.W (Or.inr (by omega)) hx.1.1).far (fun i l h1 h2 => ?_)).of a2.W q9
      rw [zr i (by omega), qi i l (by omega) (by omega)]
      exact zx_ne _ _ _ (by omega)
    · rw [zr 139 (by omega)]
      exact a2.of q9
  · rw [zr 0 (by omega), zr 137 (by omega), qi 0 3 (by omega) (by omega), e3, q4]
  · rw [zr 0 (by omega), zr 137 (by omega), qi 0 5 (by omega) (by omega), qi 137 7 (by omega) (by omega), ei 0 5 (by omega) (by omega), ei 137 7 (by omega) (by omega)]
    exact a5
  · unfold mv at a6 ⊢
    rw [zr 137 (by omega), zr 127 (by omega), zr 141 (by omega), qi 137 7 (by omega) (by omega), ei 137 7 (by omega) (by omega)]
    intro k hk
    rw [qi 127 k (by omega) (by omega), qi 141 k (by omega) (by omega), ei 127 k (by omega) (by omega), ei 141 k (by omega) (by omega)]
    exact a6 k hk
  · rw [zr 0 (by omega), zr 137 (by omega), qi 0 6 (by omega) (by omega), qi 137 11 (by omega) (by omega), ei 0 6 (by omega) (by omega), ei 137 11 (by omega) (by omega)]
    exact a7
  · rw [s8]; exact a8
  · rw [zr 139 (by omega)]
    exact Or.inr (ok.of a8 (q9 10 (by omega)))
end ZTA
