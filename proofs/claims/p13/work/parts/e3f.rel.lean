/-! the set of a clash: its bits -/
noncomputable def cf (W : Nat → Int32) (u x r : Int32) (k : Nat) : Bool := !(zc2 .eq (Int32.ofNat k) u) && !(bif zc1 .eq r then zc1 .eq ((q_of W k 16 ||| Int32.ofNat 0) &&& x) else zc1 .eq ((q_of W k 16 ||| q_of W k 15) &&& x))
theorem clash_step (W : Nat → Int32) (u x r : Int32) (n : Nat) (s : Int32) (k : Nat) : l_clash W u x r (n + 1) s k = l_clash W u x r n (bif cf W u x r k then s ||| (Int32.ofNat 1 <<< (Int32.ofNat k &&& 31)) else s) (k + 1) := by
  rw [l_clash, orz]
  unfold cf
  cases zc1 .eq r <;> cases zc2 .eq (Int32.ofNat k) u <;> cases zc1 .eq ((q_of W k 16 ||| Int32.ofNat 0) &&& x) <;> cases zc1 .eq ((q_of W k 16 ||| q_of W k 15) &&& x) <;> rfl
theorem clash_0 (W : Nat → Int32) (u x r : Int32) (s : Int32) (k : Nat) : l_clash W u x r 0 s k = s := rfl
theorem clash_bits {W : Nat → Int32} {u x r : Int32} (h4 : nv W 9 ≤ 4) : ∀ j, j < nv W 9 → zc1 .eq (q_holds (q_clash W u x r) j) = !(cf W u x r j) := by
  unfold q_clash
  generalize nv W 9 = N at h4
  match N, h4 with
  | 0, _ => intro j hj; exact absurd hj (Nat.not_lt_zero _)
  | 1, _ =>
    simp only [clash_step, clash_0]
    intro j hj
    have hj0 : j = 0 := by omega
    subst hj0
    generalize cf W u x r 0 = f0
    revert f0
    decide +kernel
  | 2, _ =>
    simp only [clash_step, clash_0]
    have key : ∀ f : Nat → Bool, ∀ j, j < 2 → zc1 .eq (q_holds (bif f (0 + 1) then (bif f 0 then Int32.ofNat 0 ||| (Int32.ofNat 1 <<< (Int32.ofNat 0 &&& 31)) else Int32.ofNat 0) ||| (Int32.ofNat 1 <<< (Int32.ofNat (0 + 1) &&& 31)) else (bif f 0 then Int32.ofNat 0 ||| (Int32.ofNat 1 <<< (Int32.ofNat 0 &&& 31)) else Int32.ofNat 0)) j) = !(f j) := by
      intro f j hj
      match j, hj with
      | 0, _ => generalize f 0 = a; generalize f (0 + 1) = c; revert a c; decide +kernel
      | 1, _ => show _ = !(f (0 + 1)); generalize f 0 = a; generalize f (0 + 1) = c; revert a c; decide +kernel
    exact key (cf W u x r)
  | 3, _ =>
    simp only [clash_step, clash_0]
    intro j hj
    match j, hj with
    | 0, _ => generalize cf W u x r 0 = f0; generalize cf W u x r (0 + 1) = f1; generalize cf W u x r (0 + 1 + 1) = f2; revert f0 f1 f2; decide +kernel
    | 1, _ => show _ = !(cf W u x r (0 + 1)); generalize cf W u x r 0 = f0; generalize cf W u x r (0 + 1) = f1; generalize cf W u x r (0 + 1 + 1) = f2; revert f0 f1 f2; decide +kernel
    | 2, _ => show _ = !(cf W u x r (0 + 1 + 1)); generalize cf W u x r 0 = f0; generalize cf W u x r (0 + 1) = f1; generalize cf W u x r (0 + 1 + 1) = f2; revert f0 f1 f2; decide +kernel
  | 4, _ =>
    simp only [clash_step, clash_0]
    intro j hj
    match j, hj with
    | 0, _ => generalize cf W u x r 0 = f0; generalize cf W u x r (0 + 1) = f1; generalize cf W u x r (0 + 1 + 1) = f2; generalize cf W u x r (0 + 1 + 1 + 1) = f3; revert f0 f1 f2 f3; decide +kernel
    | 1, _ => show _ = !(cf W u x r (0 + 1)); generalize cf W u x r 0 = f0; generalize cf W u x r (0 + 1) = f1; generalize cf W u x r (0 + 1 + 1) = f2; generalize cf W u x r (0 + 1 + 1 + 1) = f3; revert f0 f1 f2 f3; decide +kernel
    | 2, _ => show _ = !(cf W u x r (0 + 1 + 1)); generalize cf W u x r 0 = f0; generalize cf W u x r (0 + 1) = f1; generalize cf W u x r (0 + 1 + 1) = f2; generalize cf W u x r (0 + 1 + 1 + 1) = f3; revert f0 f1 f2 f3; decide +kernel
    | 3, _ => show _ = !(cf W u x r (0 + 1 + 1 + 1)); generalize cf W u x r 0 = f0; generalize cf W u x r (0 + 1) = f1; generalize cf W u x r (0 + 1 + 1) = f2; generalize cf W u x r (0 + 1 + 1 + 1) = f3; revert f0 f1 f2 f3; decide +kernel
theorem clash_guess {W : Nat → Int32} {u x r : Int32} (hw : WG W) (hG : GR W) : ∀ j, 0 ≤ j → j < nv W 9 → zc1 .eq (q_holds (q_clash W u x r) j) = false → W (376 + 103 * j + 2) = Int32.ofNat 1 := by
  intro j _ hj hb
  have h4 := hw.N4
  have hj4 : j < 4 := by omega
  rw [clash_bits h4 j hj] at hb
  have a1 := (hw.2 j hj4).1
  by_cases hz : nv W (376 + 103 * j + 2) = 0
  · have e2 : W (376 + 103 * j + 2) = Int32.ofNat 0 := by rw [a1.1, hz]
    obtain ⟨e15, e16, -⟩ := hG j hj4 e2
    have q16 : q_of W j 16 = Int32.ofNat 0 := e16
    have q15 : q_of W j 15 = Int32.ofNat 0 := e15
    have z2 : zc1 .eq (Int32.ofNat 0 &&& x) = true := by
      have : Int32.ofNat 0 &&& x = Int32.ofNat 0 := Int32.zero_and
      rw [this]; decide
    unfold cf at hb
    rw [q16, q15, orz, z2] at hb
    cases h1 : zc1 .eq r <;> rw [h1] at hb <;> simp at hb
  · have e1 : nv W (376 + 103 * j + 2) = 1 := by have := a1.2.2; omega
    rw [a1.1, e1]
