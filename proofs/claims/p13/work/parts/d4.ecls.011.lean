noncomputable def e_chance (m : Nat → Nat → Int32) (n : Int32) : (Int32 ⊕ Nat) × (Nat → Nat → Int32) := (bif kOK n then ((.inl ((e_goDraw m ((n.toNatClampNeg))).1)), (e_goDraw m ((n.toNatClampNeg))).2) else ((.inr 2), m))
theorem ec_chance {σ : Nat → Nat × (Nat → Int32)} {yy : (Nat → Nat → Int64) × Bool × Nat × Nat} {m : Nat → Nat → Int32} {n : Int32} (hC : CG m 1) (hK : KX m 1 P0) : zF σ 7 1617 [.ref 0, .int n] (zS1, m, yy) (xo (e_chance m n).1) (zS1, (e_chance m n).2, (xy yy (e_chance m n).1)) := by
  intro d hd
  obtain ⟨d, rfl⟩ : ∃ k, d = k + 1 := ⟨d - 1, by omega⟩
  show zEv σ (d + 1) 1617 0 [some (.ref 0), some (.int n)] [] _ _ _
  refine zeP rfl rfl ?_
  refine zeP rfl rfl ?_
  cases h1 : kOK n with
  | false =>
    exact zeThX rfl rfl rfl rfl rfl rfl (xn_1641 (m := m) (x := n) h1) (by omega) rfl rfl (by simp only [e_chance, h1, cond_true, cond_false] <;> rfl) (by simp only [e_chance, h1, cond_true, cond_false] <;> rfl)
  | true =>
    have c1 := xk_1641 (x := n) h1
    refine zeCF rfl rfl rfl rfl rfl rfl (xo_1641 (m := m) (x := n) h1) (by omega) ?_
    dsimp only [Option.toList, List.cons_append, List.nil_append]
    refine zeKn (c := 1) rfl rfl rfl ?_
    refine zeCV rfl rfl rfl rfl zS00 rfl (ec_goDraw (m := m) (n0 := (n.toNatClampNeg)) hC hK c1.2.1) (by omega) ?_
    dsimp only [Option.toList, List.cons_append, List.nil_append]
    exact zeRe rfl rfl rfl rfl (by simp only [e_chance, h1, cond_true, cond_false] <;> rfl) (by simp only [e_chance, h1, cond_true, cond_false] <;> rfl)
