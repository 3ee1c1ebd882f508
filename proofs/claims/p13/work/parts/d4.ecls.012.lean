theorem ge0_of {q : Int32} (h : zc1 .ge q = true) (hq : q.toInt ≤ 400) : q = Int32.ofNat q.toNatClampNeg ∧ q.toNatClampNeg ≤ 400 := by
  have a := of_decide_eq_true h
  rw [Int32.le_iff_toInt_le, Int32.toInt_zero] at a
  obtain ⟨g1, g2⟩ := nat_ge (x := q) a
  exact ⟨g1, by omega⟩
