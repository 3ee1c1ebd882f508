/-! a copy of a machine holds the same world -/
noncomputable def mvb (o k : Nat) : Bool := decide (((o = 0 ∧ (k = 6 ∨ k = 7 ∨ k = 8 ∨ k = 9 ∨ k = 12)) ∨ (o = 38 ∧ k < 20) ∨ (o = 39 ∧ k < 20) ∨ (o = 40 ∧ (k = 1 ∨ k = 2)) ∨ (o = 41 ∧ k < 240)) ∨ (o = 1 ∧ k < 32) ∨ (o = 2 ∧ k < 32) ∨ (o = 3 ∧ k < 9) ∨ (5 ≤ o ∧ o < 9 ∧ k < 4) ∨ (o = 0 ∧ k = 5))
theorem mvb_ok {o k : Nat} (h : mvb o k = true) : mvc o k := by
  unfold mvb at h
  have q := of_decide_eq_true h
  exact q
noncomputable def svb (j k : Nat) : Bool := decide ((j = 0 ∧ 2 ≤ k ∧ k ≤ 7) ∨ (j = 1 ∧ k < 24) ∨ (j = 2 ∧ k < 24) ∨ (j = 3 ∧ k < 5) ∨ (j = 4 ∧ k ≤ 9 ∧ k ≠ 4 ∧ k ≠ 8) ∨ (j = 5 ∧ k < 4) ∨ (j = 6 ∧ k < 32))
theorem svb_ok {j k : Nat} (h : svb j k = true) : svc j k := by
  unfold svb at h
  have q := of_decide_eq_true h
  exact q
theorem cm_mv : (List.range 136).all (fun k => k == 15 || mvb (cm k).1 (cm k).2) = true := by decide +kernel
theorem cmT_sv : (List.range 103).all (fun c => Nat.ble 10 (cmT 0 c).1 && svb ((cmT 0 c).1 - 10) (cmT 0 c).2) = true := by decide +kernel
theorem cmT_0 (t c : Nat) : cmT t c = ((cmT 0 c).1 + 7 * t, (cmT 0 c).2) := by
  unfold cmT
  by_cases h0 : c = 0
  · rw [if_pos h0, if_pos h0]
  · rw [if_neg h0, if_neg h0]
    by_cases h1 : c = 1
    · rw [if_pos h1, if_pos h1]
    · rw [if_neg h1, if_neg h1]
      by_cases h2 : c = 2
      · rw [if_pos h2, if_pos h2]
      · rw [if_neg h2, if_neg h2]
        by_cases h3 : c = 3
        · rw [if_pos h3, if_pos h3]
        · rw [if_neg h3, if_neg h3]
          by_cases h4 : c = 4
          · rw [if_pos h4, if_pos h4]
          · rw [if_neg h4, if_neg h4]
            by_cases h5 : c < 10
            · rw [if_pos h5, if_pos h5]
            · rw [if_neg h5, if_neg h5]
              by_cases h6 : c = 10
              · rw [if_pos h6, if_pos h6]
              · rw [if_neg h6, if_neg h6]
                by_cases h7 : c < 15
                · rw [if_pos h7, if_pos h7]
                · rw [if_neg h7, if_neg h7]
                  by_cases h8 : c = 15
                  · rw [if_pos h8, if_pos h8]
                  · rw [if_neg h8, if_neg h8]
                    by_cases h9 : c = 16
                    · rw [if_pos h9, if_pos h9]
                    · rw [if_neg h9, if_neg h9]
                      by_cases h10 : c = 17
                      · rw [if_pos h10, if_pos h10]
                      · rw [if_neg h10, if_neg h10]
                        by_cases h11 : c < 21
                        · rw [if_pos h11, if_pos h11]
                        · rw [if_neg h11, if_neg h11]
                          by_cases h12 : c = 21
                          · rw [if_pos h12, if_pos h12]
                          · rw [if_neg h12, if_neg h12]
                            by_cases h13 : c = 22
                            · rw [if_pos h13, if_pos h13]
                            · rw [if_neg h13, if_neg h13]
                              by_cases h14 : c < 55
                              · rw [if_pos h14, if_pos h14]
                              · rw [if_neg h14, if_neg h14]
                                by_cases h15 : (c - 55) % 2 = 0
                                · rw [if_pos h15, if_pos h15]
                                · rw [if_neg h15, if_neg h15]
theorem cmT_s {c : Nat} (hc : c < 103) : ∃ j s, svc j s ∧ ∀ t, cmT t c = (10 + j + 7 * t, s) := by
  have a := List.all_eq_true.mp cmT_sv c (List.mem_range.mpr hc)
  rw [Bool.and_eq_true] at a
  have h1 := Nat.le_of_ble_eq_true a.1
  refine ⟨(cmT 0 c).1 - 10, (cmT 0 c).2, svb_ok a.2, fun t => ?_⟩
  rw [cmT_0 t c, show 10 + ((cmT 0 c).1 - 10) = (cmT 0 c).1 by omega]
theorem RC.copy {m : Nat → Nat → Int32} {b c : Nat} {W : Nat → Int32} (h : RC m c W) (hw : WG W) (hbc : b + 42 ≤ c ∨ c + 42 ≤ b) (hc : CG m c) : RC (x_copyFrom m b c) b W := by
  obtain ⟨-, g2, g3⟩ := copy_all hbc hc.c hc.c4
  have h4 := hw.N4
  have h60 := hw.C.2
  obtain ⟨⟨l1, l2⟩, l3⟩ := h
  have n9 : mv m c 5 = nv W 9 := RC.n9 ⟨⟨l1, l2⟩, l3⟩
  have e2 : mv (x_copyFrom m b c) (b + 40) 2 = mv m (c + 40) 2 := by
    unfold mv
    rw [g2 40 2 (mvb_ok (by decide))]
  refine ⟨⟨(g2 40 1 (mvb_ok (by decide))).trans l1, fun a k ha hk => ?_⟩, fun k hk => ?_⟩
  · rw [e2, g2 41 _ (Or.inl (Or.inr (Or.inr (Or.inr (Or.inr ⟨rfl, by omega⟩)))))]
    exact l2 a k ha hk
  · rw [← l3 k hk]
    obtain ⟨a1, a2, a3⟩ := hk
    rcases a3 with a3 | ⟨a3, a4⟩
    · have q := List.all_eq_true.mp cm_mv k (List.mem_range.mpr a3)
      have b1 : (k == 15) = false := by
        cases hb : (k == 15) with
        | false => rfl
        | true => exact absurd (eq_of_beq hb) a2
      rw [b1, Bool.false_or] at q
      exact g2 _ _ (mvb_ok q)
    · have hu : (k - 376) / 103 < mv m c 5 := by rw [n9]; exact a4.1
      obtain ⟨j, s, js, e⟩ := cmT_s (c := (k - 376) % 103) (Nat.mod_lt _ (by omega))
      have ek : k = 376 + 103 * ((k - 376) / 103) + (k - 376) % 103 := by omega
      have ec : cm k = (10 + j + 7 * ((k - 376) / 103), s) := by
        rw [← e, ← cm_at (t := (k - 376) / 103) (c := (k - 376) % 103) (by omega) (Nat.mod_lt _ (by omega)), ← ek]
      rw [ec]
      dsimp only
      rw [show b + (10 + j + 7 * ((k - 376) / 103)) = b + (10 + j) + 7 * ((k - 376) / 103) by omega, show c + (10 + j + 7 * ((k - 376) / 103)) = c + (10 + j) + 7 * ((k - 376) / 103) by omega]
      exact g3 _ j s hu js
/-- what lies elsewhere doesn't matter -/
theorem RC.far {m m' : Nat → Nat → Int32} {b : Nat} {W : Nat → Int32} (h : RC m b W) (e : ∀ i l, b ≤ i → i < b + 42 → m' i l = m i l) : RC m' b W := by
  have B : (List.range 788).all (fun k => Nat.blt (cm k).1 42) = true := by decide +kernel
  obtain ⟨⟨l1, l2⟩, l3⟩ := h
  have e2 : mv m' (b + 40) 2 = mv m (b + 40) 2 := by
    unfold mv
    rw [e _ _ (by omega) (by omega)]
  refine ⟨⟨(e _ _ (by omega) (by omega)).trans l1, fun a k ha hk => ?_⟩, fun k hk => ?_⟩
  · rw [e2, e _ _ (by omega) (by omega)]
    exact l2 a k ha hk
  · have q : (cm k).1 < 42 := Nat.le_of_ble_eq_true (List.all_eq_true.mp B k (List.mem_range.mpr hk.1))
    rw [e _ _ (by omega) (by omega)]
    exact l3 k hk
