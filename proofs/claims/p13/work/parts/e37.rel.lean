/-! the class's machine at b holds the world W -/
/-- where a cell of the world lies in the class: the object, the slot (not for the log) -/
noncomputable def cmT (t c : Nat) : Nat × Nat :=
  if c = 0 then (10 + 7 * t, 3) else if c = 1 then (10 + 7 * t, 4) else if c = 2 then (14 + 7 * t, 0) else if c = 3 then (10 + 7 * t, 5) else if c = 4 then (10 + 7 * t, 6) else if c < 10 then (13 + 7 * t, c - 5) else if c = 10 then (14 + 7 * t, 5) else if c < 15 then (15 + 7 * t, c - 11) else if c = 15 then (14 + 7 * t, 6) else if c = 16 then (14 + 7 * t, 7) else if c = 17 then (14 + 7 * t, 9) else if c < 21 then (14 + 7 * t, c - 17) else if c = 21 then (10 + 7 * t, 7) else if c = 22 then (10 + 7 * t, 2) else if c < 55 then (16 + 7 * t, c - 23) else if (c - 55) % 2 = 0 then (11 + 7 * t, (c - 55) / 2) else (12 + 7 * t, (c - 55) / 2)
noncomputable def cm (k : Nat) : Nat × Nat :=
  if k < 9 then (3, k) else if k = 9 then (0, 5) else if k < 14 then (0, k - 4) else if k = 14 then (0, 12) else if k < 16 then (40, 1) else if k < 20 then (5 + (k - 16), 0) else if k < 24 then (5 + (k - 20), 1) else if k < 28 then (5 + (k - 24), 2) else if k < 32 then (5 + (k - 28), 3) else if k < 64 then (1, k - 32) else if k < 96 then (2, k - 64) else if k < 136 then (if (k - 96) % 2 = 0 then (38, (k - 96) / 2) else (39, (k - 96) / 2)) else if k < 376 then (41, k - 136) else cmT ((k - 376) / 103) ((k - 376) % 103)
/-- no two cells lie at one place -/
noncomputable def cmiT (r s : Nat) : Nat :=
  if r = 0 then (if s = 3 then 0 else if s = 4 then 1 else if s = 5 then 3 else if s = 6 then 4 else if s = 7 then 21 else 22) else if r = 1 then 55 + 2 * s else if r = 2 then 56 + 2 * s else if r = 3 then 5 + s else if r = 4 then (if s = 0 then 2 else if s = 5 then 10 else if s = 6 then 15 else if s = 7 then 16 else if s = 9 then 17 else 17 + s) else if r = 5 then 11 + s else 23 + s
noncomputable def cmi (o s : Nat) : Nat :=
  if o = 3 then s else if o = 0 then (if s = 5 then 9 else if s = 12 then 14 else s + 4) else if o = 40 then 15 else if o = 1 then 32 + s else if o = 2 then 64 + s else if o = 38 then 96 + 2 * s else if o = 39 then 97 + 2 * s else if o = 41 then 136 + s else if o < 9 then 16 + 4 * s + (o - 5) else 376 + 103 * ((o - 10) / 7) + cmiT ((o - 10) % 7) s
theorem cmi_ok : (List.range 788).all (fun k => cmi (cm k).1 (cm k).2 == k) = true := by decide +kernel
theorem zprod2 {p q : Nat × Nat} (h1 : p.1 = q.1) (h2 : p.2 = q.2) : p = q := by
  obtain ⟨a, b⟩ := p
  obtain ⟨c, d⟩ := q
  cases h1
  cases h2
  rfl
theorem cm_inj {j k : Nat} (hj : j < 788) (hk : k < 788) (h : cm j = cm k) : j = k := by
  have a := eq_of_beq (List.all_eq_true.mp cmi_ok j (List.mem_range.mpr hj))
  have b := eq_of_beq (List.all_eq_true.mp cmi_ok k (List.mem_range.mpr hk))
  rw [← a, ← b, h]
theorem cm_at {t c : Nat} (ht : t < 4) (hc : c < 103) : cm (376 + 103 * t + c) = cmT t c := by
  unfold cm
  have e1 : (376 + 103 * t + c - 376) / 103 = t := by omega
  have e2 : (376 + 103 * t + c - 376) % 103 = c := by omega
  rw [if_neg (by omega), if_neg (by omega), if_neg (by omega), if_neg (by omega), if_neg (by omega), if_neg (by omega), if_neg (by omega), if_neg (by omega), if_neg (by omega), if_neg (by omega), if_neg (by omega), if_neg (by omega), if_neg (by omega), e1, e2]
/-- a bit of a set -/
noncomputable def hbit (s : Int32) (k : Nat) : Prop := q_holds s k = Int32.ofNat 1
/-- which cells of a thread are looked at -/
noncomputable def cndT (W : Nat → Int32) (t c : Nat) : Prop := t < nv W 9 ∧ (11 ≤ c ∧ c ≤ 14 → c - 11 < nv W (376 + 103 * t + 10)) ∧ (18 ≤ c ∧ c ≤ 20 → W (376 + 103 * t + 2) = Int32.ofNat 1) ∧ (23 ≤ c ∧ c ≤ 54 → hbit (W (376 + 103 * t + 17)) (c - 23)) ∧ (55 ≤ c → (c - 55) / 2 < nv W (376 + 103 * t + 22))
noncomputable def cnd (W : Nat → Int32) (k : Nat) : Prop := k < 788 ∧ k ≠ 15 ∧ (k < 136 ∨ (376 ≤ k ∧ cndT W ((k - 376) / 103) ((k - 376) % 103)))
noncomputable def RC (m : Nat → Nat → Int32) (b : Nat) (W : Nat → Int32) : Prop := RLg m b W ∧ ∀ k, cnd W k → m (b + (cm k).1) (cm k).2 = W k
/-- a cell is written on both sides -/
theorem RC.put {m : Nat → Nat → Int32} {b : Nat} {W : Nat → Int32} {j : Nat} {x : Int32} (h : RC m b W) (hj : j < 788) (hj15 : j ≠ 15) (hj2 : j < 136 ∨ 376 ≤ j) (hC : WC W) (hcn : ∀ k, cnd (upd W j x) k → k ≠ j → cnd W k) (ho : (cm j).1 ≠ 40 ∧ (cm j).1 ≠ 41) : RC (zm2 m (b + (cm j).1) (cm j).2 x) b (upd W j x) := by
  obtain ⟨⟨h1, h2⟩, h3⟩ := h
  have e15 : nv (upd W j x) 15 = nv W 15 := nv_of (upd_ne _ _ (fun e => hj15 e.symm))
  have e2 : mv (zm2 m (b + (cm j).1) (cm j).2 x) (b + 40) 2 = mv m (b + 40) 2 := by
    unfold mv
    rw [zx_ne _ _ _ (by omega)]
  refine ⟨⟨by rw [zx_ne _ _ _ (by omega), upd_ne _ _ (fun e => hj15 e.symm)]; exact h1, fun a c ha hc => ?_⟩, fun k hk => ?_⟩
  · rw [e15] at ha
    have h60 := hC.2
    rw [e2, e15, zx_ne _ _ _ (by omega), h2 a c ha hc]
    rw [upd_ne _ _ (by omega)]
  · by_cases hkj : k = j
    · subst hkj
      rw [zx_at, upd_at]
    · rw [upd_ne _ _ hkj]
      have hne : ¬ (b + (cm k).1 = b + (cm j).1 ∧ (cm k).2 = (cm j).2) := by
        intro e
        exact hkj (cm_inj hk.1 hj (zprod2 (by omega) e.2))
      rw [zx_o _ _ hne]
      exact h3 k (hcn k hk hkj)
