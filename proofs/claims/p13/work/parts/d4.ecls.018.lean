noncomputable def e_due (m : Nat → Nat → Int32) (t : Int32) : (Int32 ⊕ Nat) × (Nat → Nat → Int32) := (bif sOK m t then ((.inl ((e_taT m ((t.toNatClampNeg)) ((m ((1 + 3)) 4)) ((Int32.ofNat 400))).1)), (e_taT m ((t.toNatClampNeg)) ((m ((1 + 3)) 4)) ((Int32.ofNat 400))).2) else ((.inr 0), m))
theorem ec_due {σ : Nat → Nat × (Nat → Int32)} {yy : (Nat → Nat → Int64) × Bool × Nat × Nat} {m : Nat → Nat → Int32} {t : Int32} (hC : CG m 1) (hK : KX m 1 P0) (hC2 : CG m 43) (hK2 : KX m 43 P0) : zF σ 7 1622 [.ref 0, .int t] (zS1, m, yy) (xo (e_due m t).1) (zS1, (e_due m t).2, (xy yy (e_due m t).1)) := by
  intro d hd
  obtain ⟨d, rfl⟩ : ∃ k, d = k + 1 := ⟨d - 1, by omega⟩
  show zEv σ (d + 1) 1622 0 [some (.ref 0), some (.int t)] [] _ _ _
  refine zeP rfl rfl ?_
  refine zeP rfl rfl ?_
  cases h1 : sOK m t with
  | false =>
    exact zeThX rfl rfl rfl rfl rfl rfl (xn_1638 (m := m) (x := t) h1) (by omega) rfl rfl (by simp only [e_due, h1, cond_true, cond_false] <;> rfl) (by simp only [e_due, h1, cond_true, cond_false] <;> rfl)
  | true =>
    have c1 := xk_1638 (x := t) hC h1
    refine zeCV rfl rfl rfl rfl zS00 rfl (xo_1638 (m := m) (x := t) h1 hC) (by omega) ?_
    dsimp only [Option.toList, List.cons_append, List.nil_append]
    have t4 : t.toNatClampNeg < 4 := by have := hC.c4; omega
    refine zeP rfl rfl ?_
    refine zeP rfl rfl ?_
    refine zeKn (c := t.toNatClampNeg) rfl rfl c1.1 ?_
    refine zeP rfl rfl ?_
    refine zeGR rfl rfl zS00 rfl rfl ?_
    refine zeGR rfl rfl (shM bb1) rfl rfl ?_
    refine zeKn (c := 4) rfl rfl rfl ?_
    refine zeAL (k := 4) rfl rfl (shE bb1) rfl (by omega) ?_
    refine zeKn (c := 400) rfl rfl rfl ?_
    refine zeCV rfl rfl rfl rfl zS00 rfl (ec_taT (m := m) (t := (t.toNatClampNeg)) (x := (m ((1 + 3)) 4)) (q := (Int32.ofNat 400)) hC hK hC2 hK2 (by decide) t4) (by omega) ?_
    dsimp only [Option.toList, List.cons_append, List.nil_append]
    exact zeRe rfl rfl rfl rfl (by simp only [e_due, h1, cond_true, cond_false] <;> rfl) (by simp only [e_due, h1, cond_true, cond_false] <;> rfl)
