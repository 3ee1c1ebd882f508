/-! the order as the law's loop begins -/
noncomputable def zz (f : Nat → Nat → Int32) (a s n : Nat) : Bool := (List.range n).all (fun k => decide (f a (s + k) = Int32.ofNat 0))
theorem zz_use {f : Nat → Nat → Int32} {a s n k : Nat} (h : zz f a s n = true) (hk : k < n) : f a (s + k) = Int32.ofNat 0 := of_decide_eq_true (List.all_eq_true.mp h k (List.mem_range.mpr hk))
theorem zz_0 {f : Nat → Nat → Int32} {a n k : Nat} (h : zz f a 0 n = true) (hk : k < n) : f a k = Int32.ofNat 0 := by
  have := zz_use h hk
  rw [Nat.zero_add] at this
  exact this
noncomputable def zbT (f : Nat → Nat → Int32) (b t : Nat) : Bool := zz f (b + 10 + 7 * t) 2 2 && zz f (b + 11 + 7 * t) 0 24 && zz f (b + 12 + 7 * t) 0 24 && zz f (b + 14 + 7 * t) 0 2 && zz f (b + 14 + 7 * t) 5 1 && zz f (b + 15 + 7 * t) 0 4
noncomputable def zb (f : Nat → Nat → Int32) (b : Nat) : Bool := zz f (b + 40) 2 1 && zz f b 5 1 && zz f b 12 1 && decide (f b 8 = -1) && (List.range 4).all (fun t => zbT f b t) && (List.range 4).all (fun l => decide (f (b + 5 + l) 0 = Int32.ofNat (16 + 4 * l)))
section ZIN
variable {f : Nat → Nat → Int32} {b : Nat}
theorem ok0 {a k hi : Nat} (h : f a k = Int32.ofNat 0) : okm f a k hi := okm.is h (Nat.zero_le _) (by omega)
theorem zb_CK (h : zb f b = true) : CG f b ∧ KX f b P0 := by
  unfold zb at h
  simp only [Bool.and_eq_true] at h
  obtain ⟨⟨⟨⟨⟨h1, h2⟩, h3⟩, h4⟩, h5⟩, h6⟩ := h
  have hT : ∀ t, t < 4 → zbT f b t = true := fun t ht => List.all_eq_true.mp h5 t (List.mem_range.mpr ht)
  have hT2 : ∀ t, t < 4 → zz f (b + 10 + 7 * t) 2 2 = true ∧ zz f (b + 11 + 7 * t) 0 24 = true ∧ zz f (b + 12 + 7 * t) 0 24 = true ∧ zz f (b + 14 + 7 * t) 0 2 = true ∧ zz f (b + 14 + 7 * t) 5 1 = true ∧ zz f (b + 15 + 7 * t) 0 4 = true := by
    intro t ht
    have q := hT t ht
    unfold zbT at q
    simp only [Bool.and_eq_true] at q
    obtain ⟨⟨⟨⟨⟨a1, a2⟩, a3⟩, a4⟩, a5⟩, a6⟩ := q
    exact ⟨a1, a2, a3, a4, a5, a6⟩
  refine ⟨⟨ok0 (zz_use (k := 0) h1 (by omega)), ok0 (zz_use (k := 0) h2 (by omega)), fun t ht => ⟨ok0 (zz_use (k := 0) (hT2 t ht).2.2.2.2.1 (by omega)), fun k hk => ok0 (zz_0 (hT2 t ht).2.2.2.2.2 hk)⟩, ok0 (zz_use (k := 0) h3 (by omega)), fun l hl => ?_⟩, ⟨fun t ht => ?_, ?_, fun t ht q => absurd q id⟩⟩
  · have e := of_decide_eq_true (List.all_eq_true.mp h6 l (List.mem_range.mpr hl))
    exact okm.is e (by omega) (by omega)
  · obtain ⟨a1, a2, a3, a4, a5, a6⟩ := hT2 t ht
    refine ⟨ok0 (zz_use (k := 0) a1 (by omega)), ok0 (zz_use (k := 1) a1 (by omega)), ok0 (zz_0 (k := 1) a4 (by omega)), Or.inl (zz_0 (k := 0) a4 (by omega)), fun p hp => ?_⟩
    have e1 := zz_0 a2 hp
    have e2 := zz_0 a3 hp
    have n2 : mv f (b + 12 + 7 * t) p = 0 := by
      unfold mv
      rw [e2]
      decide
    exact ⟨ok0 e1, ok0 e2, fun _ => by omega, fun _ => by omega⟩
  · have e : f b 8 = -1 := of_decide_eq_true h4
    unfold LTC ltc
    rw [e]
    exact ⟨by decide, by decide⟩
end ZIN
/-- what the slots hold, looked up in a table -/
noncomputable def zgs : List (Nat × Nat × Nat) := zig_0 ++ (zig_1 ++ (zig_2 ++ (zig_3 ++ (zig_4 ++ (zig_5 ++ zig_6)))))
noncomputable def zinr (i k : Nat) : Bool := zgs.any (fun e => Nat.beq e.1 i && Nat.ble e.2.1 k && Nat.ble (k + 1) (e.2.1 + e.2.2))
theorem zgs_ok {i k : Nat} (h : zinr i k = true) : zM3.2.1 i k = zmv i k := by
  unfold zinr at h
  obtain ⟨e, he, h⟩ := List.any_eq_true.mp h
  simp only [Bool.and_eq_true, Nat.beq_eq, Nat.ble_eq] at h
  obtain ⟨⟨h1, h2⟩, h3⟩ := h
  have key : ∀ L : List (Nat × Nat × Nat), L.all (fun e => (List.range e.2.2).all (fun k => decide (zM3.2.1 e.1 (e.2.1 + k) = zmv e.1 (e.2.1 + k)))) = true → e ∈ L → zM3.2.1 i k = zmv i k := by
    intro L hL he
    have q := List.all_eq_true.mp hL e he
    have r : zM3.2.1 e.1 (e.2.1 + (k - e.2.1)) = zmv e.1 (e.2.1 + (k - e.2.1)) := of_decide_eq_true (List.all_eq_true.mp q (k - e.2.1) (List.mem_range.mpr (by omega)))
    rw [show e.2.1 + (k - e.2.1) = k by omega, h1] at r
    exact r
  unfold zgs at he
  rcases List.mem_append.mp he with he | he
  · exact key _ zi_0 he
  rcases List.mem_append.mp he with he | he
  · exact key _ zi_1 he
  rcases List.mem_append.mp he with he | he
  · exact key _ zi_2 he
  rcases List.mem_append.mp he with he | he
  · exact key _ zi_3 he
  rcases List.mem_append.mp he with he | he
  · exact key _ zi_4 he
  rcases List.mem_append.mp he with he | he
  · exact key _ zi_5 he
  · exact key _ zi_6 he
noncomputable def zMG : Nat → Nat → Int32 := fun i k => if zinr i k = true then zmv i k else zM3.2.1 i k
theorem zMG_eq : zM3.2.1 = zMG := by
  funext i k
  unfold zMG
  by_cases h : zinr i k = true
  · rw [if_pos h]
    exact zgs_ok h
  · rw [if_neg h]
theorem zb_1 : zb zM3.2.1 1 = true := by rw [zMG_eq]; decide +kernel
theorem zb_x : zb zM3.2.1 43 = true ∧ zb zM3.2.1 85 = true := by decide +kernel
theorem zb_43 : zb zM3.2.1 43 = true := zb_x.1
theorem zb_85 : zb zM3.2.1 85 = true := zb_x.2
theorem zw_0 : zz zM3.2.1 138 376 200 = true := by rw [zMG_eq]; decide +kernel
theorem zw_1 : zz zM3.2.1 138 576 200 = true := by rw [zMG_eq]; decide +kernel
theorem zw_2 : zz zM3.2.1 138 776 12 = true := by rw [zMG_eq]; decide +kernel
theorem zw_3 : zM3.2.1 138 0 = Int32.ofNat 2 ∧ zM3.2.1 138 2 = Int32.ofNat 2 ∧ zM3.2.1 138 7 = Int32.ofNat 2 ∧ zM3.2.1 138 9 = Int32.ofNat 0 ∧ zM3.2.1 138 14 = Int32.ofNat 0 ∧ zM3.2.1 138 15 = Int32.ofNat 0 ∧ zM3.2.1 138 12 = -1 := by rw [zMG_eq]; decide +kernel
theorem zw_4 : (List.range 4).all (fun l => decide (zM3.2.1 138 (16 + l) = Int32.ofNat (16 + 4 * l))) = true := by rw [zMG_eq]; decide +kernel
theorem zw_5 : zM3.2.1 0 5 = Int32.ofNat 0 ∧ zM3.2.1 128 4 = Int32.ofNat 0 ∧ zM3.2.1 129 1 = Int32.ofNat 0 ∧ zM3.2.1 137 4 = 0 ∧ zM3.2.1 137 7 = Int32.ofNat 0 ∧ zM3.2.1 137 10 = Int32.ofNat 0 ∧ zM3.2.1 137 16 = Int32.ofNat 0 := by rw [zMG_eq]; decide +kernel
theorem zw_7 : zM3.2.1 0 3 = Int32.ofNat 0 := by rw [zMG_eq]; decide +kernel
theorem zw_6 : zz zM3.2.1 134 0 4 = true := by rw [zMG_eq]; decide +kernel
theorem zw_t : ∀ k, 376 ≤ k → k < 788 → zM3.2.1 138 k = Int32.ofNat 0 := by
  intro k h1 h2
  by_cases a : k < 576
  · have := zz_use (k := k - 376) zw_0 (by omega)
    rw [show 376 + (k - 376) = k by omega] at this
    exact this
  · by_cases b : k < 776
    · have := zz_use (k := k - 576) zw_1 (by omega)
      rw [show 576 + (k - 576) = k by omega] at this
      exact this
    · have := zz_use (k := k - 776) zw_2 (by omega)
      rw [show 776 + (k - 776) = k by omega] at this
      exact this
theorem XI0 : XI zM3.2.1 := ⟨zb_CK zb_1, zb_CK zb_43, zb_CK zb_85, ok0 zw_5.1, ok0 zw_5.2.1, ok0 zw_5.2.2.1, fun u hu => ok0 (zz_0 zw_6 hu)⟩
theorem WG0 : WLT (zM3.2.1 138) := by
  obtain ⟨e0, e2, e7, e9, e14, e15, e12⟩ := zw_3
  have z : ∀ t c, t < 4 → c < 103 → zM3.2.1 138 (376 + 103 * t + c) = Int32.ofNat 0 := fun t c ht hc => zw_t _ (by omega) (by omega)
  have zo : ∀ t c hi, t < 4 → c < 103 → ok (zM3.2.1 138) (376 + 103 * t + c) 0 hi := fun t c hi ht hc => ok.is (z t c ht hc) (Nat.zero_le _) (Nat.zero_le _) (by omega)
  have zn : ∀ t c, t < 4 → c < 103 → nv (zM3.2.1 138) (376 + 103 * t + c) = 0 := fun t c ht hc => by
    unfold nv
    rw [z t c ht hc]
    decide
  refine ⟨⟨⟨ok.is e0 (by omega) (by omega) (by omega), ok.is e2 (by omega) (by omega) (by omega), ok.is e7 (by omega) (by omega) (by omega), ok.is e9 (by omega) (by omega) (by omega), ok.is e14 (by omega) (by omega) (by omega), ok.is e15 (by omega) (by omega) (by omega), fun l hl => ?_⟩, fun t ht => ?_⟩, ?_⟩
  · exact ok.is (of_decide_eq_true (List.all_eq_true.mp zw_4 l (List.mem_range.mpr hl))) (by omega) (by omega) (by omega)
  · refine ⟨zo t 2 _ ht (by omega), zo t 10 _ ht (by omega), fun k hk => zo t (11 + k) _ ht (by omega), zo t 22 _ ht (by omega), zo t 0 _ ht (by omega), zo t 18 _ ht (by omega), fun _ => z t 10 ht (by omega), fun p hp => ⟨zo t (55 + 2 * p) _ ht (by omega), zo t (55 + 2 * p + 1) _ ht (by omega), fun _ => ?_, fun _ => ?_⟩⟩
    · rw [zn t (55 + 2 * p + 1) ht (by omega)]; omega
    · rw [zn t (55 + 2 * p + 1) ht (by omega)]; omega
  · unfold LT lt1
    rw [e12]
    exact ⟨by decide, by decide⟩
theorem zr_c : (List.range 136).all (fun k => k == 15 || decide (zM3.2.1 (1 + (cm k).1) (cm k).2 = zM3.2.1 138 k)) = true := by rw [zMG_eq]; decide +kernel
theorem zr_1 : zM3.2.1 138 6 = Int32.ofNat 4 ∧ zM3.2.1 138 5 = Int32.ofNat 1 ∧ zM3.2.1 138 8 = Int32.ofNat 0 ∧ zM3.2.1 138 10 = Int32.ofNat 0 ∧ zM3.2.1 138 11 = Int32.ofNat 0 ∧ zM3.2.1 (1 + 40) 1 = Int32.ofNat 0 ∧ zM3.2.1 0 6 = zM3.2.1 137 11 := by rw [zMG_eq]; decide +kernel
theorem zr_2 : (List.range 4).all (fun l => decide (zM3.2.1 138 (20 + l) = Int32.ofNat 8)) = true := by rw [zMG_eq]; decide +kernel
theorem zr_3 : zz zM3.2.1 138 32 32 = true := by rw [zMG_eq]; decide +kernel
theorem LR0 : LR zM3.2.1 := by
  obtain ⟨e0, e2, e7, e9, e14, e15, e12⟩ := zw_3
  obtain ⟨f6, f5, f8, f10, f11, f1, ff⟩ := zr_1
  have z : ∀ t c, t < 4 → c < 103 → zM3.2.1 138 (376 + 103 * t + c) = Int32.ofNat 0 := fun t c ht hc => zw_t _ (by omega) (by omega)
  have n15 : nv (zM3.2.1 138) 15 = 0 := by unfold nv; rw [e15]; rfl
  have n9 : nv (zM3.2.1 138) 9 = 0 := by unfold nv; rw [e9]; rfl
  have wx : WX (zM3.2.1 138) := by
    refine WX.mk WG0.1 ⟨ok.is f6 (by omega) (by omega) (by omega), fun l hl => ok.is (of_decide_eq_true (List.all_eq_true.mp zr_2 l (List.mem_range.mpr hl))) (by omega) (by omega) (by omega)⟩ (ok.is f5 (by omega) (by omega) (by omega)) (ok.is f8 (by omega) (by omega) (by omega)) (fun t ht => ⟨fun _ => ⟨z t 15 ht (by omega), z t 16 ht (by omega), z t 17 ht (by omega)⟩, fun q => ?_, Or.inl (z t 21 ht (by omega))⟩)
    rw [z t 2 ht (by omega)] at q
    exact absurd q (by decide)
  have sb : SB (zM3.2.1 138) := by
    intro k hk
    rcases hk with hk | ⟨t, c, ht, rfl, hc⟩
    · have q := zz_use (k := k - 32) zr_3 (by omega)
      rw [show 32 + (k - 32) = k by omega] at q
      exact ok.is q (by omega) (by omega) (by omega)
    · exact ok.is (z t c ht (by omega)) (by omega) (by omega) (by omega)
  refine ⟨⟨⟨⟨f1.trans e15.symm, fun a c ha _ => ?_⟩, fun k hk => ?_⟩, ⟨wx, sb⟩, WG0.2, ok.is f11 (by omega) (by omega) (by omega)⟩, Or.inl zw_5.2.2.2.1, zw_7.trans zw_5.2.2.2.1.symm, zw_5.1.trans zw_5.2.2.2.2.1.symm, fun k hk => ?_, ff, ok.is f10 (by omega) (by omega) (by omega), Or.inl zw_5.2.2.2.1⟩
  · rw [n15] at ha
    exact absurd ha (Nat.not_lt_zero _)
  · obtain ⟨a1, a2, a3⟩ := hk
    rcases a3 with a3 | ⟨a3, d1, -⟩
    · have q := List.all_eq_true.mp zr_c k (List.mem_range.mpr a3)
      rw [beq_eq_false_iff_ne.mpr a2, Bool.false_or] at q
      exact of_decide_eq_true q
    · rw [n9] at d1
      exact absurd d1 (Nat.not_lt_zero _)
  · unfold mv at hk
    rw [zw_5.2.2.2.2.1] at hk
    exact absurd hk (Nat.not_lt_zero _)
theorem LI0 : LI zM3.2.1 := ⟨XI0, ⟨WG0, Or.inl zw_5.2.2.2.1, ok0 zw_5.2.2.2.2.1, ⟨0, by omega, zw_5.2.2.2.2.2.1⟩, ok0 zw_5.2.2.2.2.2.2⟩, LR0⟩
theorem law_all {L : Nat} {xs : Nat → Int32} (hL : L ≤ 3072) : ∃ M', zEv (zsig L xs) 20 2024 23 zlw0 [] zM3 (.inl (some (.int 1))) M' ∧ M'.2.2.2.2.1 ≤ 659 ∧ M'.2.2.2.2.2 ≤ 10847 := by
  obtain ⟨M', a, b, c⟩ := law_loop (xs := xs) hL 512 0 zM3.2.1 zM3.2.2 none none (by omega) (by omega) LI0
  have e : zM3 = (zS1, zM3.2.1, zM3.2.2) := by
    rw [← zM3_S]
  obtain ⟨-, n1, n2⟩ := zM3_n
  refine ⟨M', ?_, by omega, by omega⟩
  rw [e]
  exact a
