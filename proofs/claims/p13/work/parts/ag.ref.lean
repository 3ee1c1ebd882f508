noncomputable def q_octet (m : Nat → Nat → Int32) (k : Int32) (w : Nat) : Int32 × (Nat → Nat → Int32) := (bif zc1 .eq (q_in k ((Int32.ofNat 0)) (((Int32.ofNat w) - (Int32.ofNat 1)))) then ((-1), (zm2 m 137 0 (Int32.ofNat 0))) else ((((zm2 m 137 0 (Int32.ofNat 0))) 145 ((k.toNatClampNeg))), (zm2 m 137 0 (Int32.ofNat 0))))
theorem p_octet {σ : Nat → Nat × (Nat → Int32)} {yy : (Nat → Nat → Int64) × Bool × Nat × Nat} {m : Nat → Nat → Int32} {W : Nat → Int32} {k : Int32} {w : Nat} {d : Nat} (hd : 2 ≤ d + 1) (hw : m 137 16 = Int32.ofNat w) (hw4 : w ≤ 400) : zEv σ (d + 1) 1911 0 [some (.ref 137), some (.int k)] [] (zS1, zrow m 138 W, yy) (.inl (some (.int (q_octet m k w).1))) (zS1, zrow ((q_octet m k w).2) 138 W, yy) := by
  refine zeP rfl rfl ?_
  refine zeKn (c := 0) rfl rfl rfl ?_
  refine zeFP rfl rfl rfl ?_
  refine zeP rfl rfl ?_
  refine zeKn (c := 0) rfl rfl rfl ?_
  refine zeP rfl rfl ?_
  refine zeFI rfl rfl rfl rfl ?_
  rw [(show zm2 m 137 0 (Int32.ofNat 0) 137 16 = Int32.ofNat w by rw [zm2_k _ _ (by decide)]; exact hw)]
  refine zeKn (c := 1) rfl rfl rfl ?_
  refine zeP rfl rfl ?_
  refine zeCF rfl rfl rfl rfl rfl rfl (c_in (m := (zm2 m 137 0 (Int32.ofNat 0))) (W := W) (v := k) (lo := (Int32.ofNat 0)) (hi := ((Int32.ofNat w) - (Int32.ofNat 1))) ) (by omega) ?_
  dsimp only [Option.toList, List.cons_append, List.nil_append]
  refine zeB1 rfl rfl (fun h1 => ?_) (fun h1 => ?_)
  · refine zeK (v := -1) rfl rfl rfl ?_
    exact zeRe rfl rfl rfl rfl (by simp only [q_octet, h1, cond_true, cond_false] <;> rfl) (by simp only [q_octet, h1, cond_true, cond_false] <;> rfl)
  · have ck : k = Int32.ofNat k.toNatClampNeg ∧ k.toNatClampNeg < w := (in_n (by omega) (zne h1))
    refine zeP rfl rfl ?_
    refine zeGR rfl rfl zS137 rfl rfl ?_
    refine zeKn (c := k.toNatClampNeg) rfl rfl ck.1 ?_
    refine zeQBL (a := 145) (k := (k.toNatClampNeg)) rfl (by decide) rfl rfl (by have := ck.2; omega) ?_
    refine zeP rfl rfl ?_
    exact zeRe rfl rfl rfl rfl (by simp only [q_octet, h1, cond_true, cond_false] <;> rfl) (by simp only [q_octet, h1, cond_true, cond_false] <;> rfl)
theorem c_octet {σ : Nat → Nat × (Nat → Int32)} {yy : (Nat → Nat → Int64) × Bool × Nat × Nat} {m : Nat → Nat → Int32} {W : Nat → Int32} {k : Int32} {w : Nat} (hw : m 137 16 = Int32.ofNat w) (hw4 : w ≤ 400) : zF σ 2 1911 [.ref 137, .int k] (zS1, zrow m 138 W, yy) (.inl (some (.int (q_octet m k w).1))) (zS1, zrow ((q_octet m k w).2) 138 W, yy) := by
  intro d hd
  obtain ⟨d, rfl⟩ : ∃ k, d = k + 1 := ⟨d - 1, by omega⟩
  exact p_octet hd hw hw4
