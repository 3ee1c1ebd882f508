noncomputable def e_plain (m : Nat → Nat → Int32) : Int32 × (Nat → Nat → Int32) := ((e_taX m ((Int32.ofNat 16)) ((Int32.ofNat 400))).1, (e_taX m ((Int32.ofNat 16)) ((Int32.ofNat 400))).2)
theorem ec_plain {σ : Nat → Nat × (Nat → Int32)} {yy : (Nat → Nat → Int64) × Bool × Nat × Nat} {m : Nat → Nat → Int32} (hC : CG m 1) (hK : KX m 1 P0) (hC2 : CG m 43) (hK2 : KX m 43 P0) : zF σ 7 1624 [.ref 0] (zS1, m, yy) (.inl (some (.int (e_plain m).1))) (zS1, (e_plain m).2, yy) := by
  intro d hd
  obtain ⟨d, rfl⟩ : ∃ k, d = k + 1 := ⟨d - 1, by omega⟩
  show zEv σ (d + 1) 1624 0 [some (.ref 0)] [] _ _ _
  refine zeP rfl rfl ?_
  refine zeK (v := -1) rfl rfl rfl ?_
  refine zeKn (c := 16) rfl rfl rfl ?_
  refine zeKn (c := 400) rfl rfl rfl ?_
  refine zeCV rfl rfl rfl rfl zS00 rfl (ec_taX (m := m) (x := (Int32.ofNat 16)) (q := (Int32.ofNat 400)) hC hK hC2 hK2 (by decide)) (by omega) ?_
  dsimp only [Option.toList, List.cons_append, List.nil_append]
  exact zeRe rfl rfl rfl rfl (by rfl) (by rfl)
