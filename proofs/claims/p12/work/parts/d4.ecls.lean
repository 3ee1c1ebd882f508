noncomputable def e_touches (m : Nat → Nat → Int32) (t : Int32) (x : Int32) : (Int32 ⊕ Nat) := (bif sOK m t then (bif tOK x then (bif zc1 .ne (Int32.ofNat (x.toNatClampNeg)) then (.inl ((((x_blocksOf3 m 1 (t.toNatClampNeg)) ||| (x_blocksOf0 m 1 (t.toNatClampNeg))) ||| (x_blocksOf1 m 1 (t.toNatClampNeg))))) else (.inl ((((x_blocksOf2 m 1 (t.toNatClampNeg)) ||| (x_blocksOf0 m 1 (t.toNatClampNeg))) ||| (x_blocksOf1 m 1 (t.toNatClampNeg)))))) else (.inr 1)) else (.inr 0))
theorem ec_touches {σ : Nat → Nat × (Nat → Int32)} {yy : (Nat → Nat → Int64) × Bool × Nat × Nat} {m : Nat → Nat → Int32} {t : Int32} {x : Int32} (hC : CG m 1) (hK : KX m 1 P0) : zF σ 3 1626 [.ref 0, .int t, .int x] (zS1, m, yy) (xo (e_touches m t x)) (zS1, m, (xy yy (e_touches m t x))) := by
  intro d hd
  obtain ⟨d, rfl⟩ : ∃ k, d = k + 1 := ⟨d - 1, by omega⟩
  show zEv σ (d + 1) 1626 0 [some (.ref 0), some (.int t), some (.int x), none, none] [] _ _ _
  refine zeP rfl rfl ?_
  refine zeP rfl rfl ?_
  cases h1 : sOK m t with
  | false =>
    exact zeThX rfl rfl rfl rfl rfl rfl (xn_1638 (m := m) (x := t) h1) (by first | exact zq_adn (by decide) | exact zq_adr (zq_adn (by decide)) | omega) rfl rfl (by simp only [e_touches, h1, cond_true, cond_false] <;> rfl) (by simp only [e_touches, h1, cond_true, cond_false] <;> rfl)
  | true =>
    have c1 := xk_1638 (x := t) hC h1
    refine zeCV rfl rfl rfl rfl zS00 rfl (xo_1638 (m := m) (x := t) h1 hC) (by first | exact zq_adn (by decide) | exact zq_adr (zq_adn (by decide)) | omega) ?_
    dsimp only [Option.toList, List.cons_append, List.nil_append]
    refine zeP rfl rfl ?_
    have t4 : t.toNatClampNeg < 4 := by have := hC.c4; omega
    refine zeP rfl rfl ?_
    cases h2 : tOK x with
    | false =>
      exact zeThX rfl rfl rfl rfl rfl rfl (xn_1640 (m := m) (x := x) h2) (by first | exact zq_adn (by decide) | exact zq_adr (zq_adn (by decide)) | omega) rfl rfl (by simp only [e_touches, h1, h2, cond_true, cond_false] <;> rfl) (by simp only [e_touches, h1, h2, cond_true, cond_false] <;> rfl)
    | true =>
      have c2 := xk_1640 (x := x) h2
      refine zeCF rfl rfl rfl rfl rfl rfl (xo_1640 (m := m) (x := x) h2) (by first | exact zq_adn (by decide) | exact zq_adr (zq_adn (by decide)) | omega) ?_
      dsimp only [Option.toList, List.cons_append, List.nil_append]
      refine zeB1 rfl rfl (fun h3 => ?_) (fun h3 => ?_)
      · refine zeKn (c := 3) rfl rfl rfl ?_
        refine zeP rfl rfl ?_
        refine zeP rfl rfl ?_
        refine zeGR rfl rfl zS00 rfl rfl ?_
        refine zeP rfl rfl ?_
        refine zeP rfl rfl ?_
        refine zeCV rfl rfl rfl rfl (shM bb1) rfl (xc_blocksOf3 (m := m) (b := 1) (t := t.toNatClampNeg) bb1 t4 (hK.1 _ t4)) (by first | exact zq_adn (by decide) | exact zq_adr (zq_adn (by decide)) | omega) ?_
        dsimp only [Option.toList, List.cons_append, List.nil_append]
        refine zeP rfl rfl ?_
        refine zeGR rfl rfl zS00 rfl rfl ?_
        refine zeP rfl rfl ?_
        refine zeKn (c := 0) rfl rfl rfl ?_
        refine zeCV rfl rfl rfl rfl (shM bb1) rfl (xc_blocksOf0 (m := m) (b := 1) (t := t.toNatClampNeg) bb1 t4 (hK.1 _ t4)) (by first | exact zq_adn (by decide) | exact zq_adr (zq_adn (by decide)) | omega) ?_
        dsimp only [Option.toList, List.cons_append, List.nil_append]
        refine zeP rfl rfl ?_
        refine zeP rfl rfl ?_
        refine zeGR rfl rfl zS00 rfl rfl ?_
        refine zeP rfl rfl ?_
        refine zeKn (c := 1) rfl rfl rfl ?_
        refine zeCV rfl rfl rfl rfl (shM bb1) rfl (xc_blocksOf1 (m := m) (b := 1) (t := t.toNatClampNeg) bb1 t4 (hK.1 _ t4)) (by first | exact zq_adn (by decide) | exact zq_adr (zq_adn (by decide)) | omega) ?_
        dsimp only [Option.toList, List.cons_append, List.nil_append]
        refine zeP rfl rfl ?_
        exact zeRe rfl rfl rfl rfl (by simp only [e_touches, h1, h2, h3, cond_true, cond_false] <;> rfl) (by simp only [e_touches, h1, h2, h3, cond_true, cond_false] <;> rfl)
      · refine zeKn (c := 2) rfl rfl rfl ?_
        refine zeP rfl rfl ?_
        refine zeP rfl rfl ?_
        refine zeP rfl rfl ?_
        refine zeGR rfl rfl zS00 rfl rfl ?_
        refine zeP rfl rfl ?_
        refine zeP rfl rfl ?_
        refine zeCV rfl rfl rfl rfl (shM bb1) rfl (xc_blocksOf2 (m := m) (b := 1) (t := t.toNatClampNeg) bb1 t4 (hK.1 _ t4)) (by first | exact zq_adn (by decide) | exact zq_adr (zq_adn (by decide)) | omega) ?_
        dsimp only [Option.toList, List.cons_append, List.nil_append]
        refine zeP rfl rfl ?_
        refine zeGR rfl rfl zS00 rfl rfl ?_
        refine zeP rfl rfl ?_
        refine zeKn (c := 0) rfl rfl rfl ?_
        refine zeCV rfl rfl rfl rfl (shM bb1) rfl (xc_blocksOf0 (m := m) (b := 1) (t := t.toNatClampNeg) bb1 t4 (hK.1 _ t4)) (by first | exact zq_adn (by decide) | exact zq_adr (zq_adn (by decide)) | omega) ?_
        dsimp only [Option.toList, List.cons_append, List.nil_append]
        refine zeP rfl rfl ?_
        refine zeP rfl rfl ?_
        refine zeGR rfl rfl zS00 rfl rfl ?_
        refine zeP rfl rfl ?_
        refine zeKn (c := 1) rfl rfl rfl ?_
        refine zeCV rfl rfl rfl rfl (shM bb1) rfl (xc_blocksOf1 (m := m) (b := 1) (t := t.toNatClampNeg) bb1 t4 (hK.1 _ t4)) (by first | exact zq_adn (by decide) | exact zq_adr (zq_adn (by decide)) | omega) ?_
        dsimp only [Option.toList, List.cons_append, List.nil_append]
        refine zeP rfl rfl ?_
        exact zeRe rfl rfl rfl rfl (by simp only [e_touches, h1, h2, h3, cond_true, cond_false] <;> rfl) (by simp only [e_touches, h1, h2, h3, cond_true, cond_false] <;> rfl)
noncomputable def e_rivals (m : Nat → Nat → Int32) (t : Int32) (u : Int32) : (Int32 ⊕ Nat) := (bif sOK m t then (bif sOK m u then (bif zc2 .ne (Int32.ofNat (t.toNatClampNeg)) (Int32.ofNat (u.toNatClampNeg)) then (.inl ((((x_blocksOf3 m 1 (t.toNatClampNeg)) &&& ((x_blocksOf3 m 1 (u.toNatClampNeg)) ||| (x_blocksOf2 m 1 (u.toNatClampNeg)))) ||| ((x_blocksOf3 m 1 (u.toNatClampNeg)) &&& (x_blocksOf2 m 1 (t.toNatClampNeg)))))) else (.inr 2)) else (.inr 0)) else (.inr 0))
theorem ec_rivals {σ : Nat → Nat × (Nat → Int32)} {yy : (Nat → Nat → Int64) × Bool × Nat × Nat} {m : Nat → Nat → Int32} {t : Int32} {u : Int32} (hC : CG m 1) (hK : KX m 1 P0) : zF σ 3 1627 [.ref 0, .int t, .int u] (zS1, m, yy) (xo (e_rivals m t u)) (zS1, m, (xy yy (e_rivals m t u))) := by
  intro d hd
  obtain ⟨d, rfl⟩ : ∃ k, d = k + 1 := ⟨d - 1, by omega⟩
  show zEv σ (d + 1) 1627 0 [some (.ref 0), some (.int t), some (.int u), none, none, none, none] [] _ _ _
  refine zeP rfl rfl ?_
  refine zeP rfl rfl ?_
  cases h1 : sOK m t with
  | false =>
    exact zeThX rfl rfl rfl rfl rfl rfl (xn_1638 (m := m) (x := t) h1) (by first | exact zq_adn (by decide) | exact zq_adr (zq_adn (by decide)) | omega) rfl rfl (by simp only [e_rivals, h1, cond_true, cond_false] <;> rfl) (by simp only [e_rivals, h1, cond_true, cond_false] <;> rfl)
  | true =>
    have c1 := xk_1638 (x := t) hC h1
    refine zeCV rfl rfl rfl rfl zS00 rfl (xo_1638 (m := m) (x := t) h1 hC) (by first | exact zq_adn (by decide) | exact zq_adr (zq_adn (by decide)) | omega) ?_
    dsimp only [Option.toList, List.cons_append, List.nil_append]
    refine zeP rfl rfl ?_
    have t4 : t.toNatClampNeg < 4 := by have := hC.c4; omega
    refine zeP rfl rfl ?_
    refine zeP rfl rfl ?_
    cases h2 : sOK m u with
    | false =>
      exact zeThX rfl rfl rfl rfl rfl rfl (xn_1638 (m := m) (x := u) h2) (by first | exact zq_adn (by decide) | exact zq_adr (zq_adn (by decide)) | omega) rfl rfl (by simp only [e_rivals, h1, h2, cond_true, cond_false] <;> rfl) (by simp only [e_rivals, h1, h2, cond_true, cond_false] <;> rfl)
    | true =>
      have c2 := xk_1638 (x := u) hC h2
      refine zeCV rfl rfl rfl rfl zS00 rfl (xo_1638 (m := m) (x := u) h2 hC) (by first | exact zq_adn (by decide) | exact zq_adr (zq_adn (by decide)) | omega) ?_
      dsimp only [Option.toList, List.cons_append, List.nil_append]
      refine zeP rfl rfl ?_
      have u4 : u.toNatClampNeg < 4 := by have := hC.c4; omega
      refine zeKn (c := t.toNatClampNeg) rfl rfl c1.1 ?_
      refine zeKn (c := u.toNatClampNeg) rfl rfl c2.1 ?_
      refine zeB2 rfl rfl (fun h3 => ?_) (fun h3 => ?_)
      · refine zeP rfl rfl ?_
        refine zeGR rfl rfl zS00 rfl rfl ?_
        refine zeP rfl rfl ?_
        refine zeKn (c := 3) rfl rfl rfl ?_
        refine zeCV rfl rfl rfl rfl (shM bb1) rfl (xc_blocksOf3 (m := m) (b := 1) (t := t.toNatClampNeg) bb1 t4 (hK.1 _ t4)) (by first | exact zq_adn (by decide) | exact zq_adr (zq_adn (by decide)) | omega) ?_
        dsimp only [Option.toList, List.cons_append, List.nil_append]
        refine zeP rfl rfl ?_
        refine zeP rfl rfl ?_
        refine zeGR rfl rfl zS00 rfl rfl ?_
        refine zeP rfl rfl ?_
        refine zeKn (c := 3) rfl rfl rfl ?_
        refine zeCV rfl rfl rfl rfl (shM bb1) rfl (xc_blocksOf3 (m := m) (b := 1) (t := u.toNatClampNeg) bb1 u4 (hK.1 _ u4)) (by first | exact zq_adn (by decide) | exact zq_adr (zq_adn (by decide)) | omega) ?_
        dsimp only [Option.toList, List.cons_append, List.nil_append]
        refine zeP rfl rfl ?_
        refine zeP rfl rfl ?_
        refine zeP rfl rfl ?_
        refine zeP rfl rfl ?_
        refine zeGR rfl rfl zS00 rfl rfl ?_
        refine zeP rfl rfl ?_
        refine zeKn (c := 2) rfl rfl rfl ?_
        refine zeCV rfl rfl rfl rfl (shM bb1) rfl (xc_blocksOf2 (m := m) (b := 1) (t := u.toNatClampNeg) bb1 u4 (hK.1 _ u4)) (by first | exact zq_adn (by decide) | exact zq_adr (zq_adn (by decide)) | omega) ?_
        dsimp only [Option.toList, List.cons_append, List.nil_append]
        refine zeP rfl rfl ?_
        refine zeP rfl rfl ?_
        refine zeP rfl rfl ?_
        refine zeP rfl rfl ?_
        refine zeGR rfl rfl zS00 rfl rfl ?_
        refine zeP rfl rfl ?_
        refine zeKn (c := 2) rfl rfl rfl ?_
        refine zeCV rfl rfl rfl rfl (shM bb1) rfl (xc_blocksOf2 (m := m) (b := 1) (t := t.toNatClampNeg) bb1 t4 (hK.1 _ t4)) (by first | exact zq_adn (by decide) | exact zq_adr (zq_adn (by decide)) | omega) ?_
        dsimp only [Option.toList, List.cons_append, List.nil_append]
        refine zeP rfl rfl ?_
        refine zeP rfl rfl ?_
        exact zeRe rfl rfl rfl rfl (by simp only [e_rivals, h1, h2, h3, cond_true, cond_false] <;> rfl) (by simp only [e_rivals, h1, h2, h3, cond_true, cond_false] <;> rfl)
      · exact zeThr rfl rfl rfl rfl rfl rfl (by simp only [e_rivals, h1, h2, h3, cond_true, cond_false] <;> rfl) (by simp only [e_rivals, h1, h2, h3, cond_true, cond_false] <;> rfl)
noncomputable def e_step (m : Nat → Nat → Int32) (t : Int32) : (Int32 ⊕ Nat) × (Nat → Nat → Int32) := (bif sOK m t then (bif zc1 .ne (x_sDone m 1 (t.toNatClampNeg)) then ((.inr 4), m) else (bif zc2 .lt (m 1 7) (Int32.ofNat 99999) then ((.inl ((x_takeStep ((zm2 m 131 8 (Int32.ofNat 0))) 1 ((t.toNatClampNeg))).1)), (x_takeStep ((zm2 m 131 8 (Int32.ofNat 0))) 1 ((t.toNatClampNeg))).2) else ((.inr 4), m))) else ((.inr 0), m))
theorem ec_step {σ : Nat → Nat × (Nat → Int32)} {yy : (Nat → Nat → Int64) × Bool × Nat × Nat} {m : Nat → Nat → Int32} {t : Int32} (hC : CG m 1) (hK : KX m 1 P0) : zF σ 6 1615 [.ref 0, .int t] (zS1, m, yy) (xo (e_step m t).1) (zS1, (e_step m t).2, (xy yy (e_step m t).1)) := by
  intro d hd
  obtain ⟨d, rfl⟩ : ∃ k, d = k + 1 := ⟨d - 1, by omega⟩
  show zEv σ (d + 1) 1615 0 [some (.ref 0), some (.int t), none] [] _ _ _
  refine zeP rfl rfl ?_
  refine zeP rfl rfl ?_
  cases h1 : sOK m t with
  | false =>
    exact zeThX rfl rfl rfl rfl rfl rfl (xn_1638 (m := m) (x := t) h1) (by first | exact zq_adn (by decide) | exact zq_adr (zq_adn (by decide)) | omega) rfl rfl (by simp only [e_step, h1, cond_true, cond_false] <;> rfl) (by simp only [e_step, h1, cond_true, cond_false] <;> rfl)
  | true =>
    have c1 := xk_1638 (x := t) hC h1
    refine zeCV rfl rfl rfl rfl zS00 rfl (xo_1638 (m := m) (x := t) h1 hC) (by first | exact zq_adn (by decide) | exact zq_adr (zq_adn (by decide)) | omega) ?_
    dsimp only [Option.toList, List.cons_append, List.nil_append]
    refine zeP rfl rfl ?_
    have t4 : t.toNatClampNeg < 4 := by have := hC.c4; omega
    refine zeP rfl rfl ?_
    refine zeCV rfl rfl rfl rfl (shS bb1 (by first | exact zq_adn (by decide) | exact zq_adr (zq_adn (by decide)) | omega)) rfl (xc_sDone (m := m) (b := 1) (t := t.toNatClampNeg) bb1 t4) (by first | exact zq_adn (by decide) | exact zq_adr (zq_adn (by decide)) | omega) ?_
    dsimp only [Option.toList, List.cons_append, List.nil_append]
    refine zeB1 rfl rfl (fun h2 => ?_) (fun h2 => ?_)
    · exact zeThr rfl rfl rfl rfl rfl rfl (by simp only [e_step, h1, h2, cond_true, cond_false] <;> rfl) (by simp only [e_step, h1, h2, cond_true, cond_false] <;> rfl)
    · refine zeP rfl rfl ?_
      refine zeGR rfl rfl zS00 rfl rfl ?_
      refine zeGI rfl rfl (shM bb1) rfl rfl ?_
      refine zeKn (c := 99999) rfl rfl rfl ?_
      refine zeB2 rfl rfl (fun h3 => ?_) (fun h3 => ?_)
      · refine zeP rfl rfl ?_
        refine zeGR rfl rfl zS00 rfl rfl ?_
        refine zeCV rfl rfl rfl rfl zS131 rfl (xc_forget (m := m)) (by first | exact zq_adn (by decide) | exact zq_adr (zq_adn (by decide)) | omega) ?_
        dsimp only [Option.toList, List.cons_append, List.nil_append]
        refine zeP rfl rfl ?_
        refine zeGR rfl rfl zS00 rfl rfl ?_
        refine zeKn (c := t.toNatClampNeg) rfl rfl c1.1 ?_
        refine zeCV rfl rfl rfl rfl (shM bb1) rfl ((xc_takeStep (m := (zm2 m 131 8 (Int32.ofNat 0))) (b := 1) (t := (t.toNatClampNeg)) bb1 (hC.far (by first | exact zq_adn (by decide) | exact zq_adr (zq_adn (by decide)) | omega)) ((hK.run t4 (c1ne0 (by assumption))).far (by first | exact zq_adn (by decide) | exact zq_adr (zq_adn (by decide)) | omega)) t4).1) (by first | exact zq_adn (by decide) | exact zq_adr (zq_adn (by decide)) | omega) ?_
        dsimp only [Option.toList, List.cons_append, List.nil_append]
        exact zeRe rfl rfl rfl rfl (by simp only [e_step, h1, h2, h3, cond_true, cond_false] <;> rfl) (by simp only [e_step, h1, h2, h3, cond_true, cond_false] <;> rfl)
      · exact zeThr rfl rfl rfl rfl rfl rfl (by simp only [e_step, h1, h2, h3, cond_true, cond_false] <;> rfl) (by simp only [e_step, h1, h2, h3, cond_true, cond_false] <;> rfl)
noncomputable def e_poke (m : Nat → Nat → Int32) (w : Int32) (v : Int32) : (Int32 ⊕ Nat) × (Nat → Nat → Int32) := (bif wOK w then (bif zc1 .lt v then ((.inr 2), m) else (bif zc2 .lt v (Int32.ofNat 10000) then ((.inl ((m ((1 + 1)) ((w.toNatClampNeg))))), (x_reachX ((zm2 m 131 8 (Int32.ofNat 0))) 1 ((w.toNatClampNeg)) v).2) else ((.inr 2), m))) else ((.inr 0), m))
theorem ec_poke {σ : Nat → Nat × (Nat → Int32)} {yy : (Nat → Nat → Int64) × Bool × Nat × Nat} {m : Nat → Nat → Int32} {w : Int32} {v : Int32} (hC : CG m 1) : zF σ 4 1619 [.ref 0, .int w, .int v] (zS1, m, yy) (xo (e_poke m w v).1) (zS1, (e_poke m w v).2, (xy yy (e_poke m w v).1)) := by
  intro d hd
  obtain ⟨d, rfl⟩ : ∃ k, d = k + 1 := ⟨d - 1, by omega⟩
  show zEv σ (d + 1) 1619 0 [some (.ref 0), some (.int w), some (.int v), none] [] _ _ _
  refine zeP rfl rfl ?_
  refine zeGR rfl rfl zS00 rfl rfl ?_
  refine zeGR rfl rfl (shM bb1) rfl rfl ?_
  refine zeP rfl rfl ?_
  cases h1 : wOK w with
  | false =>
    exact zeThX rfl rfl rfl rfl rfl rfl (xn_1639 (m := m) (x := w) h1) (by first | exact zq_adn (by decide) | exact zq_adr (zq_adn (by decide)) | omega) rfl rfl (by simp only [e_poke, h1, cond_true, cond_false] <;> rfl) (by simp only [e_poke, h1, cond_true, cond_false] <;> rfl)
  | true =>
    have c1 := xk_1639 (x := w) h1
    refine zeCF rfl rfl rfl rfl rfl rfl (xo_1639 (m := m) (x := w) h1) (by first | exact zq_adn (by decide) | exact zq_adr (zq_adn (by decide)) | omega) ?_
    dsimp only [Option.toList, List.cons_append, List.nil_append]
    refine zeAL (k := (w.toNatClampNeg)) rfl rfl (shW bb1) rfl (by first | exact zq_adn (by decide) | exact zq_adr (zq_adn (by decide)) | omega) ?_
    refine zeP rfl rfl ?_
    refine zeP rfl rfl ?_
    refine zeB1 rfl rfl (fun h2 => ?_) (fun h2 => ?_)
    · exact zeThr rfl rfl rfl rfl rfl rfl (by simp only [e_poke, h1, h2, cond_true, cond_false] <;> rfl) (by simp only [e_poke, h1, h2, cond_true, cond_false] <;> rfl)
    · refine zeP rfl rfl ?_
      refine zeKn (c := 10000) rfl rfl rfl ?_
      refine zeB2 rfl rfl (fun h3 => ?_) (fun h3 => ?_)
      · refine zeP rfl rfl ?_
        refine zeGR rfl rfl zS00 rfl rfl ?_
        refine zeCV rfl rfl rfl rfl zS131 rfl (xc_forget (m := m)) (by first | exact zq_adn (by decide) | exact zq_adr (zq_adn (by decide)) | omega) ?_
        dsimp only [Option.toList, List.cons_append, List.nil_append]
        refine zeP rfl rfl ?_
        refine zeGR rfl rfl zS00 rfl rfl ?_
        refine zeK (v := -1) rfl rfl rfl ?_
        refine zeKn (c := w.toNatClampNeg) rfl rfl c1.1 ?_
        refine zeP rfl rfl ?_
        refine zeCV rfl rfl rfl rfl (shM bb1) rfl (xc_reachX (m := (zm2 m 131 8 (Int32.ofNat 0))) (b := 1) (w := (w.toNatClampNeg)) (v := v) bb1 (hC.far (by first | exact zq_adn (by decide) | exact zq_adr (zq_adn (by decide)) | omega)) c1.2) (by first | exact zq_adn (by decide) | exact zq_adr (zq_adn (by decide)) | omega) ?_
        dsimp only [Option.toList, List.cons_append, List.nil_append]
        refine zeP rfl rfl ?_
        refine zeP rfl rfl ?_
        exact zeRe rfl rfl rfl rfl (by simp only [e_poke, h1, h2, h3, cond_true, cond_false] <;> rfl) (by simp only [e_poke, h1, h2, h3, cond_true, cond_false] <;> rfl)
      · exact zeThr rfl rfl rfl rfl rfl rfl (by simp only [e_poke, h1, h2, h3, cond_true, cond_false] <;> rfl) (by simp only [e_poke, h1, h2, h3, cond_true, cond_false] <;> rfl)
noncomputable def e_image (m : Nat → Nat → Int32) : (Nat → Nat → Int32) := (zm2 ((x_copyFrom m 85 1)) 0 3 ((Int32.ofNat 1)))
theorem ec_image {σ : Nat → Nat × (Nat → Int32)} {yy : (Nat → Nat → Int64) × Bool × Nat × Nat} {m : Nat → Nat → Int32} (hC : CG m 1) (hK : KX m 1 P0) : zF σ 4 1635 [.ref 0] (zS1, m, yy) (.inl none) (zS1, (e_image m), yy) := by
  intro d hd
  obtain ⟨d, rfl⟩ : ∃ k, d = k + 1 := ⟨d - 1, by omega⟩
  show zEv σ (d + 1) 1635 0 [some (.ref 0)] [] _ _ _
  refine zeP rfl rfl ?_
  refine zeGR rfl rfl zS00 rfl rfl ?_
  refine zeP rfl rfl ?_
  refine zeGR rfl rfl zS00 rfl rfl ?_
  refine zeCV rfl rfl rfl rfl (shM bb85) rfl (xc_copyFrom (m := m) (b := 85) (c := 1) bb85 bb1 (Or.inr (by first | exact zq_adn (by decide) | exact zq_adr (zq_adn (by decide)) | omega)) hC.c hC.c4 (fun t ht => (hK.1 t ht).2.2.2.1)) (by first | exact zq_adn (by decide) | exact zq_adr (zq_adn (by decide)) | omega) ?_
  dsimp only [Option.toList, List.cons_append, List.nil_append]
  refine zeP rfl rfl ?_
  refine zeKn (c := 1) rfl rfl rfl ?_
  refine zePB rfl rfl zS00 rfl (by decide) ?_
  exact zeRe rfl rfl rfl rfl (by rfl) (by rfl)
noncomputable def e_back (m : Nat → Nat → Int32) : Int32 × (Nat → Nat → Int32) := (bif zc1 .ne (m 0 3) then ((Int32.ofNat 1), (zm2 ((x_copyFrom m 1 85)) 131 8 (Int32.ofNat 0))) else ((Int32.ofNat 0), m))
theorem ec_back {σ : Nat → Nat × (Nat → Int32)} {yy : (Nat → Nat → Int64) × Bool × Nat × Nat} {m : Nat → Nat → Int32} (hC3 : CG m 85) (hK3 : KX m 85 P0) : zF σ 4 1636 [.ref 0] (zS1, m, yy) (.inl (some (.int (e_back m).1))) (zS1, (e_back m).2, yy) := by
  intro d hd
  obtain ⟨d, rfl⟩ : ∃ k, d = k + 1 := ⟨d - 1, by omega⟩
  show zEv σ (d + 1) 1636 0 [some (.ref 0)] [] _ _ _
  refine zeP rfl rfl ?_
  refine zeGI rfl rfl zS00 rfl rfl ?_
  refine zeB1 rfl rfl (fun h1 => ?_) (fun h1 => ?_)
  · refine zeP rfl rfl ?_
    refine zeGR rfl rfl zS00 rfl rfl ?_
    refine zeP rfl rfl ?_
    refine zeGR rfl rfl zS00 rfl rfl ?_
    refine zeCV rfl rfl rfl rfl (shM bb1) rfl (xc_copyFrom (m := m) (b := 1) (c := 85) bb1 bb85 (Or.inl (by first | exact zq_adn (by decide) | exact zq_adr (zq_adn (by decide)) | omega)) hC3.c hC3.c4 (fun t ht => (hK3.1 t ht).2.2.2.1)) (by first | exact zq_adn (by decide) | exact zq_adr (zq_adn (by decide)) | omega) ?_
    dsimp only [Option.toList, List.cons_append, List.nil_append]
    refine zeP rfl rfl ?_
    refine zeGR rfl rfl zS00 rfl rfl ?_
    refine zeCV rfl rfl rfl rfl zS131 rfl (xc_forget (m := (x_copyFrom m 1 85))) (by first | exact zq_adn (by decide) | exact zq_adr (zq_adn (by decide)) | omega) ?_
    dsimp only [Option.toList, List.cons_append, List.nil_append]
    refine zeKn (c := 1) rfl rfl rfl ?_
    exact zeRe rfl rfl rfl rfl (by simp only [e_back, h1, cond_true, cond_false] <;> rfl) (by simp only [e_back, h1, cond_true, cond_false] <;> rfl)
  · refine zeKn (c := 0) rfl rfl rfl ?_
    exact zeRe rfl rfl rfl rfl (by simp only [e_back, h1, cond_true, cond_false] <;> rfl) (by simp only [e_back, h1, cond_true, cond_false] <;> rfl)
noncomputable def xl_goTurnL (n0 : Nat) : Nat → Nat → (Nat → Nat → Int32) → Int32 × (Nat → Nat → Int32)
  | 0, k, m => ((Int32.ofNat k), m)
  | n + 1, k, m => (bif zc2 .ge (m 1 7) (Int32.ofNat 99999) then ((Int32.ofNat k), m) else (bif zc2 .ne (x_nextByTurn m 1) (-1) then (xl_goTurnL n0 n ((k + 1)) ((x_takeStep m 1 (((x_nextByTurn m 1).toNatClampNeg))).2)) else ((Int32.ofNat k), m)))
theorem xw_goTurnL {σ : Nat → Nat × (Nat → Int32)} {yy : (Nat → Nat → Int64) × Bool × Nat × Nat} {n0 : Nat} {d : Nat} (hd : 6 ≤ d + 1) (hn0 : n0 ≤ 100) : ∀ (n : Nat) (k : Nat) (x4 : Option Value) (m : Nat → Nat → Int32), k + n = n0 → CG m 1 → KX m 1 P0 → zEv σ (d + 1) 1618 9 [some (.ref 0), some (.int (Int32.ofNat n0)), some (.int (Int32.ofNat 0)), some (.int (Int32.ofNat k)), x4] [] (zS1, m, yy) (.inl (some (.int (xl_goTurnL n0 n k m).1))) (zS1, ((xl_goTurnL n0 n k m).2), yy) := by
  intro n
  induction n with
  | zero =>
    intro k x4 m hk hC hK
    refine zeP rfl rfl ?_
    refine zeP rfl rfl ?_
    refine zeT2 rfl rfl (zcge (by first | exact zq_adn (by decide) | exact zq_adr (zq_adn (by decide)) | omega) (by first | exact zq_adn (by decide) | exact zq_adr (zq_adn (by decide)) | omega) (by first | exact zq_adn (by decide) | exact zq_adr (zq_adn (by decide)) | omega)) ?_
    refine zeP rfl rfl ?_
    exact zeRe rfl rfl rfl rfl (by rfl) (by rfl)
  | succ n ih =>
    intro k x4 m hk hC hK
    refine zeP rfl rfl ?_
    refine zeP rfl rfl ?_
    refine zeF2 rfl rfl (zcge_f (by first | exact zq_adn (by decide) | exact zq_adr (zq_adn (by decide)) | omega) (by first | exact zq_adn (by decide) | exact zq_adr (zq_adn (by decide)) | omega) (by first | exact zq_adn (by decide) | exact zq_adr (zq_adn (by decide)) | omega)) ?_
    refine zeP rfl rfl ?_
    refine zeGR rfl rfl zS00 rfl rfl ?_
    refine zeGI rfl rfl (shM bb1) rfl rfl ?_
    refine zeKn (c := 99999) rfl rfl rfl ?_
    refine zeB2 rfl rfl (fun h1 => ?_) (fun h1 => ?_)
    · refine zeP rfl rfl ?_
      exact zeRe rfl rfl rfl rfl (by simp only [xl_goTurnL, h1, cond_true, cond_false] <;> rfl) (by simp only [xl_goTurnL, h1, cond_true, cond_false] <;> rfl)
    · refine zeP rfl rfl ?_
      refine zeT1 rfl rfl (show zc1 .eq (Int32.ofNat 0) = true by decide) ?_
      refine zeP rfl rfl ?_
      refine zeGR rfl rfl zS00 rfl rfl ?_
      refine zeCV rfl rfl rfl rfl (shM bb1) rfl (xc_nextByTurn (m := m) (b := 1) bb1 hC hK.2.1) (by first | exact zq_adn (by decide) | exact zq_adr (zq_adn (by decide)) | omega) ?_
      dsimp only [Option.toList, List.cons_append, List.nil_append]
      refine zeP rfl rfl ?_
      refine zeP rfl rfl ?_
      refine zeK (v := -1) rfl rfl rfl ?_
      refine zeB2 rfl rfl (fun h2 => ?_) (fun h2 => ?_)
      · have cn : (x_nextByTurn m 1) = Int32.ofNat (x_nextByTurn m 1).toNatClampNeg ∧ (x_nextByTurn m 1).toNatClampNeg < 4 ∧ x_sDone m 1 (x_nextByTurn m 1).toNatClampNeg = 0 := nt_ok hC (ne1_of (by assumption))
        refine zeP rfl rfl ?_
        refine zeGR rfl rfl zS00 rfl rfl ?_
        refine zeKn (c := (x_nextByTurn m 1).toNatClampNeg) rfl rfl cn.1 ?_
        refine zeCV rfl rfl rfl rfl (shM bb1) rfl ((xc_takeStep (m := m) (b := 1) (t := ((x_nextByTurn m 1).toNatClampNeg)) bb1 hC (hK.run cn.2.1 cn.2.2) cn.2.1).1) (by first | exact zq_adn (by decide) | exact zq_adr (zq_adn (by decide)) | omega) ?_
        dsimp only [Option.toList, List.cons_append, List.nil_append]
        refine zeP rfl rfl ?_
        refine zeInc rfl rfl ?_
        refine zeP rfl rfl ?_
        simp only [xl_goTurnL, h1, h2, cond_true, cond_false]
        exact ih ((k + 1)) (some (.int (x_nextByTurn m 1)))  ((x_takeStep m 1 (((x_nextByTurn m 1).toNatClampNeg))).2) (by first | exact zq_adn (by decide) | exact zq_adr (zq_adn (by decide)) | omega) (takeStep_kc bb1 hC (hK.run cn.2.1 cn.2.2) cn.2.1).2 (takeStep_kc bb1 hC (hK.run cn.2.1 cn.2.2) cn.2.1).1
      · refine zeP rfl rfl ?_
        refine zeP rfl rfl ?_
        exact zeRe rfl rfl rfl rfl (by simp only [xl_goTurnL, h1, h2, cond_true, cond_false] <;> rfl) (by simp only [xl_goTurnL, h1, h2, cond_true, cond_false] <;> rfl)
noncomputable def e_goTurn (m : Nat → Nat → Int32) (n0 : Nat) : Int32 × (Nat → Nat → Int32) := ((xl_goTurnL n0 n0 0 ((zm2 m 131 8 (Int32.ofNat 0)))).1, (xl_goTurnL n0 n0 0 ((zm2 m 131 8 (Int32.ofNat 0)))).2)
theorem ec_goTurn {σ : Nat → Nat × (Nat → Int32)} {yy : (Nat → Nat → Int64) × Bool × Nat × Nat} {m : Nat → Nat → Int32} {n0 : Nat} (hC : CG m 1) (hK : KX m 1 P0) (hn0 : n0 ≤ 100) : zF σ 6 1618 [.ref 0, .int (Int32.ofNat n0), .int (Int32.ofNat 0)] (zS1, m, yy) (.inl (some (.int (e_goTurn m n0).1))) (zS1, (e_goTurn m n0).2, yy) := by
  intro d hd
  obtain ⟨d, rfl⟩ : ∃ k, d = k + 1 := ⟨d - 1, by omega⟩
  show zEv σ (d + 1) 1618 0 [some (.ref 0), some (.int (Int32.ofNat n0)), some (.int (Int32.ofNat 0)), none, none] [] _ _ _
  refine zeP rfl rfl ?_
  refine zeGR rfl rfl zS00 rfl rfl ?_
  refine zeCV rfl rfl rfl rfl zS131 rfl (xc_forget (m := m)) (by first | exact zq_adn (by decide) | exact zq_adr (zq_adn (by decide)) | omega) ?_
  dsimp only [Option.toList, List.cons_append, List.nil_append]
  refine zeKn (c := 0) rfl rfl rfl ?_
  refine zeP rfl rfl ?_
  simp only [e_goTurn, cond_true, cond_false]
  exact xw_goTurnL (n0 := n0) (by first | exact zq_adn (by decide) | exact zq_adr (zq_adn (by decide)) | omega) hn0 n0 (0) (none)  ((zm2 m 131 8 (Int32.ofNat 0))) (by first | exact zq_adn (by decide) | exact zq_adr (zq_adn (by decide)) | omega) (hC.far (by first | exact zq_adn (by decide) | exact zq_adr (zq_adn (by decide)) | omega)) (hK.far (by first | exact zq_adn (by decide) | exact zq_adr (zq_adn (by decide)) | omega))
noncomputable def xl_goDrawL (n0 : Nat) : Nat → Nat → (Nat → Nat → Int32) → Int32 × (Nat → Nat → Int32)
  | 0, k, m => ((Int32.ofNat k), m)
  | n + 1, k, m => (bif zc2 .ge (m 1 7) (Int32.ofNat 99999) then ((Int32.ofNat k), m) else (bif zc2 .ne (x_nextByDraw m 1).1 (-1) then (xl_goDrawL n0 n ((k + 1)) ((x_takeStep ((x_nextByDraw m 1).2) 1 (((x_nextByDraw m 1).1.toNatClampNeg))).2)) else ((Int32.ofNat k), (x_nextByDraw m 1).2)))
theorem xw_goDrawL {σ : Nat → Nat × (Nat → Int32)} {yy : (Nat → Nat → Int64) × Bool × Nat × Nat} {n0 : Nat} {d : Nat} (hd : 6 ≤ d + 1) (hn0 : n0 ≤ 100) : ∀ (n : Nat) (k : Nat) (x4 : Option Value) (m : Nat → Nat → Int32), k + n = n0 → CG m 1 → KX m 1 P0 → zEv σ (d + 1) 1618 9 [some (.ref 0), some (.int (Int32.ofNat n0)), some (.int (Int32.ofNat 1)), some (.int (Int32.ofNat k)), x4] [] (zS1, m, yy) (.inl (some (.int (xl_goDrawL n0 n k m).1))) (zS1, ((xl_goDrawL n0 n k m).2), yy) := by
  intro n
  induction n with
  | zero =>
    intro k x4 m hk hC hK
    refine zeP rfl rfl ?_
    refine zeP rfl rfl ?_
    refine zeT2 rfl rfl (zcge (by first | exact zq_adn (by decide) | exact zq_adr (zq_adn (by decide)) | omega) (by first | exact zq_adn (by decide) | exact zq_adr (zq_adn (by decide)) | omega) (by first | exact zq_adn (by decide) | exact zq_adr (zq_adn (by decide)) | omega)) ?_
    refine zeP rfl rfl ?_
    exact zeRe rfl rfl rfl rfl (by rfl) (by rfl)
  | succ n ih =>
    intro k x4 m hk hC hK
    refine zeP rfl rfl ?_
    refine zeP rfl rfl ?_
    refine zeF2 rfl rfl (zcge_f (by first | exact zq_adn (by decide) | exact zq_adr (zq_adn (by decide)) | omega) (by first | exact zq_adn (by decide) | exact zq_adr (zq_adn (by decide)) | omega) (by first | exact zq_adn (by decide) | exact zq_adr (zq_adn (by decide)) | omega)) ?_
    refine zeP rfl rfl ?_
    refine zeGR rfl rfl zS00 rfl rfl ?_
    refine zeGI rfl rfl (shM bb1) rfl rfl ?_
    refine zeKn (c := 99999) rfl rfl rfl ?_
    refine zeB2 rfl rfl (fun h1 => ?_) (fun h1 => ?_)
    · refine zeP rfl rfl ?_
      exact zeRe rfl rfl rfl rfl (by simp only [xl_goDrawL, h1, cond_true, cond_false] <;> rfl) (by simp only [xl_goDrawL, h1, cond_true, cond_false] <;> rfl)
    · refine zeP rfl rfl ?_
      refine zeF1 rfl rfl (show zc1 .eq (Int32.ofNat 1) = false by decide) ?_
      refine zeP rfl rfl ?_
      refine zeGR rfl rfl zS00 rfl rfl ?_
      refine zeCV rfl rfl rfl rfl (shM bb1) rfl (xc_nextByDraw (m := m) (b := 1) bb1 hC) (by first | exact zq_adn (by decide) | exact zq_adr (zq_adn (by decide)) | omega) ?_
      dsimp only [Option.toList, List.cons_append, List.nil_append]
      refine zeP rfl rfl ?_
      refine zeP rfl rfl ?_
      refine zeP rfl rfl ?_
      refine zeK (v := -1) rfl rfl rfl ?_
      refine zeB2 rfl rfl (fun h2 => ?_) (fun h2 => ?_)
      · have cn : (x_nextByDraw m 1).1 = Int32.ofNat (x_nextByDraw m 1).1.toNatClampNeg ∧ (x_nextByDraw m 1).1.toNatClampNeg < 4 ∧ x_sDone (x_nextByDraw m 1).2 1 (x_nextByDraw m 1).1.toNatClampNeg = 0 := (nd_ok hC hK FB.refl).2.2.2 (ne1_of (by assumption))
        refine zeP rfl rfl ?_
        refine zeGR rfl rfl zS00 rfl rfl ?_
        refine zeKn (c := (x_nextByDraw m 1).1.toNatClampNeg) rfl rfl cn.1 ?_
        refine zeCV rfl rfl rfl rfl (shM bb1) rfl ((xc_takeStep (m := (x_nextByDraw m 1).2) (b := 1) (t := ((x_nextByDraw m 1).1.toNatClampNeg)) bb1 (nd_ok hC hK FB.refl).1 ((nd_ok hC hK FB.refl).2.1.run cn.2.1 cn.2.2) cn.2.1).1) (by first | exact zq_adn (by decide) | exact zq_adr (zq_adn (by decide)) | omega) ?_
        dsimp only [Option.toList, List.cons_append, List.nil_append]
        refine zeP rfl rfl ?_
        refine zeInc rfl rfl ?_
        refine zeP rfl rfl ?_
        simp only [xl_goDrawL, h1, h2, cond_true, cond_false]
        exact ih ((k + 1)) (some (.int (x_nextByDraw m 1).1))  ((x_takeStep ((x_nextByDraw m 1).2) 1 (((x_nextByDraw m 1).1.toNatClampNeg))).2) (by first | exact zq_adn (by decide) | exact zq_adr (zq_adn (by decide)) | omega) (takeStep_kc bb1 (nd_ok hC hK FB.refl).1 ((nd_ok hC hK FB.refl).2.1.run cn.2.1 cn.2.2) cn.2.1).2 (takeStep_kc bb1 (nd_ok hC hK FB.refl).1 ((nd_ok hC hK FB.refl).2.1.run cn.2.1 cn.2.2) cn.2.1).1
      · refine zeP rfl rfl ?_
        refine zeP rfl rfl ?_
        exact zeRe rfl rfl rfl rfl (by simp only [xl_goDrawL, h1, h2, cond_true, cond_false] <;> rfl) (by simp only [xl_goDrawL, h1, h2, cond_true, cond_false] <;> rfl)
noncomputable def e_goDraw (m : Nat → Nat → Int32) (n0 : Nat) : Int32 × (Nat → Nat → Int32) := ((xl_goDrawL n0 n0 0 ((zm2 m 131 8 (Int32.ofNat 0)))).1, (xl_goDrawL n0 n0 0 ((zm2 m 131 8 (Int32.ofNat 0)))).2)
theorem ec_goDraw {σ : Nat → Nat × (Nat → Int32)} {yy : (Nat → Nat → Int64) × Bool × Nat × Nat} {m : Nat → Nat → Int32} {n0 : Nat} (hC : CG m 1) (hK : KX m 1 P0) (hn0 : n0 ≤ 100) : zF σ 6 1618 [.ref 0, .int (Int32.ofNat n0), .int (Int32.ofNat 1)] (zS1, m, yy) (.inl (some (.int (e_goDraw m n0).1))) (zS1, (e_goDraw m n0).2, yy) := by
  intro d hd
  obtain ⟨d, rfl⟩ : ∃ k, d = k + 1 := ⟨d - 1, by omega⟩
  show zEv σ (d + 1) 1618 0 [some (.ref 0), some (.int (Int32.ofNat n0)), some (.int (Int32.ofNat 1)), none, none] [] _ _ _
  refine zeP rfl rfl ?_
  refine zeGR rfl rfl zS00 rfl rfl ?_
  refine zeCV rfl rfl rfl rfl zS131 rfl (xc_forget (m := m)) (by first | exact zq_adn (by decide) | exact zq_adr (zq_adn (by decide)) | omega) ?_
  dsimp only [Option.toList, List.cons_append, List.nil_append]
  refine zeKn (c := 0) rfl rfl rfl ?_
  refine zeP rfl rfl ?_
  simp only [e_goDraw, cond_true, cond_false]
  exact xw_goDrawL (n0 := n0) (by first | exact zq_adn (by decide) | exact zq_adr (zq_adn (by decide)) | omega) hn0 n0 (0) (none)  ((zm2 m 131 8 (Int32.ofNat 0))) (by first | exact zq_adn (by decide) | exact zq_adr (zq_adn (by decide)) | omega) (hC.far (by first | exact zq_adn (by decide) | exact zq_adr (zq_adn (by decide)) | omega)) (hK.far (by first | exact zq_adn (by decide) | exact zq_adr (zq_adn (by decide)) | omega))
noncomputable def e_run (m : Nat → Nat → Int32) (n : Int32) : (Int32 ⊕ Nat) × (Nat → Nat → Int32) := (bif kOK n then ((.inl ((e_goTurn m ((n.toNatClampNeg))).1)), (e_goTurn m ((n.toNatClampNeg))).2) else ((.inr 2), m))
theorem ec_run {σ : Nat → Nat × (Nat → Int32)} {yy : (Nat → Nat → Int64) × Bool × Nat × Nat} {m : Nat → Nat → Int32} {n : Int32} (hC : CG m 1) (hK : KX m 1 P0) : zF σ 7 1616 [.ref 0, .int n] (zS1, m, yy) (xo (e_run m n).1) (zS1, (e_run m n).2, (xy yy (e_run m n).1)) := by
  intro d hd
  obtain ⟨d, rfl⟩ : ∃ k, d = k + 1 := ⟨d - 1, by omega⟩
  show zEv σ (d + 1) 1616 0 [some (.ref 0), some (.int n)] [] _ _ _
  refine zeP rfl rfl ?_
  refine zeP rfl rfl ?_
  cases h1 : kOK n with
  | false =>
    exact zeThX rfl rfl rfl rfl rfl rfl (xn_1641 (m := m) (x := n) h1) (by first | exact zq_adn (by decide) | exact zq_adr (zq_adn (by decide)) | omega) rfl rfl (by simp only [e_run, h1, cond_true, cond_false] <;> rfl) (by simp only [e_run, h1, cond_true, cond_false] <;> rfl)
  | true =>
    have c1 := xk_1641 (x := n) h1
    refine zeCF rfl rfl rfl rfl rfl rfl (xo_1641 (m := m) (x := n) h1) (by first | exact zq_adn (by decide) | exact zq_adr (zq_adn (by decide)) | omega) ?_
    dsimp only [Option.toList, List.cons_append, List.nil_append]
    refine zeKn (c := 0) rfl rfl rfl ?_
    refine zeCV rfl rfl rfl rfl zS00 rfl (ec_goTurn (m := m) (n0 := (n.toNatClampNeg)) hC hK c1.2.1) (by first | exact zq_adn (by decide) | exact zq_adr (zq_adn (by decide)) | omega) ?_
    dsimp only [Option.toList, List.cons_append, List.nil_append]
    exact zeRe rfl rfl rfl rfl (by simp only [e_run, h1, cond_true, cond_false] <;> rfl) (by simp only [e_run, h1, cond_true, cond_false] <;> rfl)
noncomputable def e_chance (m : Nat → Nat → Int32) (n : Int32) : (Int32 ⊕ Nat) × (Nat → Nat → Int32) := (bif kOK n then ((.inl ((e_goDraw m ((n.toNatClampNeg))).1)), (e_goDraw m ((n.toNatClampNeg))).2) else ((.inr 2), m))
theorem ec_chance {σ : Nat → Nat × (Nat → Int32)} {yy : (Nat → Nat → Int64) × Bool × Nat × Nat} {m : Nat → Nat → Int32} {n : Int32} (hC : CG m 1) (hK : KX m 1 P0) : zF σ 7 1617 [.ref 0, .int n] (zS1, m, yy) (xo (e_chance m n).1) (zS1, (e_chance m n).2, (xy yy (e_chance m n).1)) := by
  intro d hd
  obtain ⟨d, rfl⟩ : ∃ k, d = k + 1 := ⟨d - 1, by omega⟩
  show zEv σ (d + 1) 1617 0 [some (.ref 0), some (.int n)] [] _ _ _
  refine zeP rfl rfl ?_
  refine zeP rfl rfl ?_
  cases h1 : kOK n with
  | false =>
    exact zeThX rfl rfl rfl rfl rfl rfl (xn_1641 (m := m) (x := n) h1) (by first | exact zq_adn (by decide) | exact zq_adr (zq_adn (by decide)) | omega) rfl rfl (by simp only [e_chance, h1, cond_true, cond_false] <;> rfl) (by simp only [e_chance, h1, cond_true, cond_false] <;> rfl)
  | true =>
    have c1 := xk_1641 (x := n) h1
    refine zeCF rfl rfl rfl rfl rfl rfl (xo_1641 (m := m) (x := n) h1) (by first | exact zq_adn (by decide) | exact zq_adr (zq_adn (by decide)) | omega) ?_
    dsimp only [Option.toList, List.cons_append, List.nil_append]
    refine zeKn (c := 1) rfl rfl rfl ?_
    refine zeCV rfl rfl rfl rfl zS00 rfl (ec_goDraw (m := m) (n0 := (n.toNatClampNeg)) hC hK c1.2.1) (by first | exact zq_adn (by decide) | exact zq_adr (zq_adn (by decide)) | omega) ?_
    dsimp only [Option.toList, List.cons_append, List.nil_append]
    exact zeRe rfl rfl rfl rfl (by simp only [e_chance, h1, cond_true, cond_false] <;> rfl) (by simp only [e_chance, h1, cond_true, cond_false] <;> rfl)
theorem ge0_of {q : Int32} (h : zc1 .ge q = true) (hq : q.toInt ≤ 400) : q = Int32.ofNat q.toNatClampNeg ∧ q.toNatClampNeg ≤ 400 := by
  have a := of_decide_eq_true h
  rw [Int32.le_iff_toInt_le, Int32.toInt_zero] at a
  obtain ⟨g1, g2⟩ := nat_ge (x := q) a
  exact ⟨g1, by omega⟩
theorem ncE {b o k : Nat} (h : o = b + 3) : ¬ CGc b o k := by
  subst h
  rintro (⟨e, _⟩ | ⟨e, _⟩ | ⟨t, ht, ⟨e, _⟩ | e⟩ | ⟨l, hl, e, _⟩) <;> omega
noncomputable def xl_taTL (t : Nat) (x : Int32) (n0 : Nat) : Nat → Nat → (Nat → Nat → Int32) → Int32 × (Nat → Nat → Int32)
  | 0, k, m => (bif zc1 .eq (x_mDoneT m 43 t) then ((-1), m) else ((Int32.ofNat n0), m))
  | n + 1, k, m => (bif zc1 .eq (x_mDoneT m 43 t) then (bif zc2 .eq (x_nextByTurn m 43) (-1) then ((-1), m) else (bif zc2 .lt (m 43 7) (Int32.ofNat 99999) then (xl_taTL t x n0 n ((k + 1)) ((x_takeStep m 43 (((x_nextByTurn m 43).toNatClampNeg))).2)) else ((-1), m))) else ((Int32.ofNat k), m))
theorem xw_taTL {σ : Nat → Nat × (Nat → Int32)} {yy : (Nat → Nat → Int64) × Bool × Nat × Nat} {t : Nat} {x : Int32} {n0 : Nat} {d : Nat} (hd : 6 ≤ d + 1) (hn0 : n0 ≤ 400) (ht : t < 4) : ∀ (n : Nat) (k : Nat) (x5 : Option Value) (m : Nat → Nat → Int32), k + n = n0 → CG m 43 → KX m 43 P0 → zEv σ (d + 1) 1625 30 [some (.ref 0), some (.int (Int32.ofNat t)), some (.int x), some (.int (Int32.ofNat n0)), some (.int (Int32.ofNat k)), x5] [] (zS1, m, yy) (.inl (some (.int (xl_taTL t x n0 n k m).1))) (zS1, ((xl_taTL t x n0 n k m).2), yy) := by
  intro n
  induction n with
  | zero =>
    intro k x5 m hk hC2 hK2
    refine zeP rfl rfl ?_
    refine zeP rfl rfl ?_
    refine zeT2 rfl rfl (zcge (by first | exact zq_adn (by decide) | exact zq_adr (zq_adn (by decide)) | omega) (by first | exact zq_adn (by decide) | exact zq_adr (zq_adn (by decide)) | omega) (by first | exact zq_adn (by decide) | exact zq_adr (zq_adn (by decide)) | omega)) ?_
    refine zeP rfl rfl ?_
    refine zeGR rfl rfl zS00 rfl rfl ?_
    refine zeP rfl rfl ?_
    refine zeCV rfl rfl rfl rfl (shM bb43) rfl (xc_mDoneT (m := m) (b := 43) (t := t) bb43 ht) (by first | exact zq_adn (by decide) | exact zq_adr (zq_adn (by decide)) | omega) ?_
    dsimp only [Option.toList, List.cons_append, List.nil_append]
    refine zeB1 rfl rfl (fun h1 => ?_) (fun h1 => ?_)
    · refine zeK (v := -1) rfl rfl rfl ?_
      exact zeRe rfl rfl rfl rfl (by simp only [xl_taTL, h1, cond_true, cond_false] <;> rfl) (by simp only [xl_taTL, h1, cond_true, cond_false] <;> rfl)
    · refine zeP rfl rfl ?_
      refine zeP rfl rfl ?_
      exact zeRe rfl rfl rfl rfl (by simp only [xl_taTL, h1, cond_true, cond_false] <;> rfl) (by simp only [xl_taTL, h1, cond_true, cond_false] <;> rfl)
  | succ n ih =>
    intro k x5 m hk hC2 hK2
    refine zeP rfl rfl ?_
    refine zeP rfl rfl ?_
    refine zeF2 rfl rfl (zcge_f (by first | exact zq_adn (by decide) | exact zq_adr (zq_adn (by decide)) | omega) (by first | exact zq_adn (by decide) | exact zq_adr (zq_adn (by decide)) | omega) (by first | exact zq_adn (by decide) | exact zq_adr (zq_adn (by decide)) | omega)) ?_
    refine zeP rfl rfl ?_
    refine zeGR rfl rfl zS00 rfl rfl ?_
    refine zeP rfl rfl ?_
    refine zeCV rfl rfl rfl rfl (shM bb43) rfl (xc_mDoneT (m := m) (b := 43) (t := t) bb43 ht) (by first | exact zq_adn (by decide) | exact zq_adr (zq_adn (by decide)) | omega) ?_
    dsimp only [Option.toList, List.cons_append, List.nil_append]
    refine zeB1 rfl rfl (fun h1 => ?_) (fun h1 => ?_)
    · refine zeP rfl rfl ?_
      refine zeGR rfl rfl zS00 rfl rfl ?_
      refine zeCV rfl rfl rfl rfl (shM bb43) rfl (xc_nextByTurn (m := m) (b := 43) bb43 hC2 hK2.2.1) (by first | exact zq_adn (by decide) | exact zq_adr (zq_adn (by decide)) | omega) ?_
      dsimp only [Option.toList, List.cons_append, List.nil_append]
      refine zeP rfl rfl ?_
      refine zeP rfl rfl ?_
      refine zeK (v := -1) rfl rfl rfl ?_
      refine zeB2 rfl rfl (fun h2 => ?_) (fun h2 => ?_)
      · refine zeK (v := -1) rfl rfl rfl ?_
        exact zeRe rfl rfl rfl rfl (by simp only [xl_taTL, h1, h2, cond_true, cond_false] <;> rfl) (by simp only [xl_taTL, h1, h2, cond_true, cond_false] <;> rfl)
      · refine zeP rfl rfl ?_
        refine zeGR rfl rfl zS00 rfl rfl ?_
        refine zeGI rfl rfl (shM bb43) rfl rfl ?_
        refine zeKn (c := 99999) rfl rfl rfl ?_
        refine zeB2 rfl rfl (fun h3 => ?_) (fun h3 => ?_)
        · have cn : (x_nextByTurn m 43) = Int32.ofNat (x_nextByTurn m 43).toNatClampNeg ∧ (x_nextByTurn m 43).toNatClampNeg < 4 ∧ x_sDone m 43 (x_nextByTurn m 43).toNatClampNeg = 0 := nt_ok hC2 (ne1_of2 (by assumption))
          refine zeP rfl rfl ?_
          refine zeGR rfl rfl zS00 rfl rfl ?_
          refine zeKn (c := (x_nextByTurn m 43).toNatClampNeg) rfl rfl cn.1 ?_
          refine zeCV rfl rfl rfl rfl (shM bb43) rfl ((xc_takeStep (m := m) (b := 43) (t := ((x_nextByTurn m 43).toNatClampNeg)) bb43 hC2 (hK2.run cn.2.1 cn.2.2) cn.2.1).1) (by first | exact zq_adn (by decide) | exact zq_adr (zq_adn (by decide)) | omega) ?_
          dsimp only [Option.toList, List.cons_append, List.nil_append]
          refine zeP rfl rfl ?_
          refine zeInc rfl rfl ?_
          refine zeP rfl rfl ?_
          simp only [xl_taTL, h1, h2, h3, cond_true, cond_false]
          exact ih ((k + 1)) (some (.int (x_nextByTurn m 43)))  ((x_takeStep m 43 (((x_nextByTurn m 43).toNatClampNeg))).2) (by first | exact zq_adn (by decide) | exact zq_adr (zq_adn (by decide)) | omega) (takeStep_kc bb43 hC2 (hK2.run cn.2.1 cn.2.2) cn.2.1).2 (takeStep_kc bb43 hC2 (hK2.run cn.2.1 cn.2.2) cn.2.1).1
        · refine zeK (v := -1) rfl rfl rfl ?_
          exact zeRe rfl rfl rfl rfl (by simp only [xl_taTL, h1, h2, h3, cond_true, cond_false] <;> rfl) (by simp only [xl_taTL, h1, h2, h3, cond_true, cond_false] <;> rfl)
    · refine zeP rfl rfl ?_
      exact zeRe rfl rfl rfl rfl (by simp only [xl_taTL, h1, cond_true, cond_false] <;> rfl) (by simp only [xl_taTL, h1, cond_true, cond_false] <;> rfl)
noncomputable def e_taT (m : Nat → Nat → Int32) (t : Nat) (x : Int32) (q : Int32) : Int32 × (Nat → Nat → Int32) := (bif zc1 .ge q then ((xl_taTL t x ((q.toNatClampNeg)) ((q.toNatClampNeg)) 0 ((zm2 ((x_copyFrom m 43 1)) ((43 + 3)) 4 x))).1, (xl_taTL t x ((q.toNatClampNeg)) ((q.toNatClampNeg)) 0 ((zm2 ((x_copyFrom m 43 1)) ((43 + 3)) 4 x))).2) else ((-1), m))
theorem ec_taT {σ : Nat → Nat × (Nat → Int32)} {yy : (Nat → Nat → Int64) × Bool × Nat × Nat} {m : Nat → Nat → Int32} {t : Nat} {x : Int32} {q : Int32} (hC : CG m 1) (hK : KX m 1 P0) (hC2 : CG m 43) (hK2 : KX m 43 P0) (hq : q.toInt ≤ 400) (ht : t < 4) : zF σ 6 1625 [.ref 0, .int (Int32.ofNat t), .int x, .int q] (zS1, m, yy) (.inl (some (.int (e_taT m t x q).1))) (zS1, (e_taT m t x q).2, yy) := by
  intro d hd
  obtain ⟨d, rfl⟩ : ∃ k, d = k + 1 := ⟨d - 1, by omega⟩
  show zEv σ (d + 1) 1625 0 [some (.ref 0), some (.int (Int32.ofNat t)), some (.int x), some (.int q), none, none] [] _ _ _
  refine zeP rfl rfl ?_
  refine zeB1 rfl rfl (fun h1 => ?_) (fun h1 => ?_)
  · have cq : q = Int32.ofNat q.toNatClampNeg ∧ q.toNatClampNeg ≤ 400 := (ge0_of (by assumption) hq)
    refine zeP rfl rfl ?_
    refine zeGR rfl rfl zS00 rfl rfl ?_
    refine zeP rfl rfl ?_
    refine zeGR rfl rfl zS00 rfl rfl ?_
    refine zeCV rfl rfl rfl rfl (shM bb43) rfl (xc_copyFrom (m := m) (b := 43) (c := 1) bb43 bb1 (Or.inr (by first | exact zq_adn (by decide) | exact zq_adr (zq_adn (by decide)) | omega)) hC.c hC.c4 (fun t ht => (hK.1 t ht).2.2.2.1)) (by first | exact zq_adn (by decide) | exact zq_adr (zq_adn (by decide)) | omega) ?_
    dsimp only [Option.toList, List.cons_append, List.nil_append]
    refine zeP rfl rfl ?_
    refine zeGR rfl rfl zS00 rfl rfl ?_
    refine zeGR rfl rfl (shM bb43) rfl rfl ?_
    refine zeKn (c := 4) rfl rfl rfl ?_
    refine zeP rfl rfl ?_
    refine zeAS (k := 4) rfl (shE bb43) rfl (by first | exact zq_adn (by decide) | exact zq_adr (zq_adn (by decide)) | omega) ?_
    refine zeKn (c := 0) rfl rfl rfl ?_
    refine zeP rfl rfl ?_
    simp only [e_taT, h1, cond_true, cond_false]
    have ez := xw_taTL (t := t) (x := x) (n0 := (q.toNatClampNeg)) (σ := σ) (yy := yy) (d := d) (by first | exact zq_adn (by decide) | exact zq_adr (zq_adn (by decide)) | omega) cq.2 ht ((q.toNatClampNeg)) (0) (none)  ((zm2 ((x_copyFrom m 43 1)) ((43 + 3)) 4 x)) (by first | exact zq_adn (by decide) | exact zq_adr (zq_adn (by decide)) | omega) (CG.put (CG.copy (Or.inr (by first | exact zq_adn (by decide) | exact zq_adr (zq_adn (by decide)) | omega)) hC2 hC) _ (ncE (by first | exact zq_adn (by decide) | exact zq_adr (zq_adn (by decide)) | omega))) (KX.put (KX.copy (Or.inr (by first | exact zq_adn (by decide) | exact zq_adr (zq_adn (by decide)) | omega)) hK2 hK hC) _ (ndX (by first | exact zq_adn (by decide) | exact zq_adr (zq_adn (by decide)) | omega) (by first | exact zq_adn (by decide) | exact zq_adr (zq_adn (by decide)) | omega)))
    rw [← cq.1] at ez
    exact ez
  · refine zeK (v := -1) rfl rfl rfl ?_
    exact zeRe rfl rfl rfl rfl (by simp only [e_taT, h1, cond_true, cond_false] <;> rfl) (by simp only [e_taT, h1, cond_true, cond_false] <;> rfl)
noncomputable def xl_taXL (x : Int32) (n0 : Nat) : Nat → Nat → (Nat → Nat → Int32) → Int32 × (Nat → Nat → Int32)
  | 0, k, m => (bif zc1 .eq (x_mDoneX m 43) then ((-1), m) else ((Int32.ofNat n0), m))
  | n + 1, k, m => (bif zc1 .eq (x_mDoneX m 43) then (bif zc2 .eq (x_nextByTurn m 43) (-1) then ((-1), m) else (bif zc2 .lt (m 43 7) (Int32.ofNat 99999) then (xl_taXL x n0 n ((k + 1)) ((x_takeStep m 43 (((x_nextByTurn m 43).toNatClampNeg))).2)) else ((-1), m))) else ((Int32.ofNat k), m))
theorem xw_taXL {σ : Nat → Nat × (Nat → Int32)} {yy : (Nat → Nat → Int64) × Bool × Nat × Nat} {x : Int32} {n0 : Nat} {d : Nat} (hd : 6 ≤ d + 1) (hn0 : n0 ≤ 400) : ∀ (n : Nat) (k : Nat) (x5 : Option Value) (m : Nat → Nat → Int32), k + n = n0 → CG m 43 → KX m 43 P0 → zEv σ (d + 1) 1625 30 [some (.ref 0), some (.int (-1)), some (.int x), some (.int (Int32.ofNat n0)), some (.int (Int32.ofNat k)), x5] [] (zS1, m, yy) (.inl (some (.int (xl_taXL x n0 n k m).1))) (zS1, ((xl_taXL x n0 n k m).2), yy) := by
  intro n
  induction n with
  | zero =>
    intro k x5 m hk hC2 hK2
    refine zeP rfl rfl ?_
    refine zeP rfl rfl ?_
    refine zeT2 rfl rfl (zcge (by first | exact zq_adn (by decide) | exact zq_adr (zq_adn (by decide)) | omega) (by first | exact zq_adn (by decide) | exact zq_adr (zq_adn (by decide)) | omega) (by first | exact zq_adn (by decide) | exact zq_adr (zq_adn (by decide)) | omega)) ?_
    refine zeP rfl rfl ?_
    refine zeGR rfl rfl zS00 rfl rfl ?_
    refine zeP rfl rfl ?_
    refine zeCV rfl rfl rfl rfl (shM bb43) rfl (xc_mDoneX (m := m) (b := 43) bb43 hC2 hK2.2.1) (by first | exact zq_adn (by decide) | exact zq_adr (zq_adn (by decide)) | omega) ?_
    dsimp only [Option.toList, List.cons_append, List.nil_append]
    refine zeB1 rfl rfl (fun h1 => ?_) (fun h1 => ?_)
    · refine zeK (v := -1) rfl rfl rfl ?_
      exact zeRe rfl rfl rfl rfl (by simp only [xl_taXL, h1, cond_true, cond_false] <;> rfl) (by simp only [xl_taXL, h1, cond_true, cond_false] <;> rfl)
    · refine zeP rfl rfl ?_
      refine zeP rfl rfl ?_
      exact zeRe rfl rfl rfl rfl (by simp only [xl_taXL, h1, cond_true, cond_false] <;> rfl) (by simp only [xl_taXL, h1, cond_true, cond_false] <;> rfl)
  | succ n ih =>
    intro k x5 m hk hC2 hK2
    refine zeP rfl rfl ?_
    refine zeP rfl rfl ?_
    refine zeF2 rfl rfl (zcge_f (by first | exact zq_adn (by decide) | exact zq_adr (zq_adn (by decide)) | omega) (by first | exact zq_adn (by decide) | exact zq_adr (zq_adn (by decide)) | omega) (by first | exact zq_adn (by decide) | exact zq_adr (zq_adn (by decide)) | omega)) ?_
    refine zeP rfl rfl ?_
    refine zeGR rfl rfl zS00 rfl rfl ?_
    refine zeP rfl rfl ?_
    refine zeCV rfl rfl rfl rfl (shM bb43) rfl (xc_mDoneX (m := m) (b := 43) bb43 hC2 hK2.2.1) (by first | exact zq_adn (by decide) | exact zq_adr (zq_adn (by decide)) | omega) ?_
    dsimp only [Option.toList, List.cons_append, List.nil_append]
    refine zeB1 rfl rfl (fun h1 => ?_) (fun h1 => ?_)
    · refine zeP rfl rfl ?_
      refine zeGR rfl rfl zS00 rfl rfl ?_
      refine zeCV rfl rfl rfl rfl (shM bb43) rfl (xc_nextByTurn (m := m) (b := 43) bb43 hC2 hK2.2.1) (by first | exact zq_adn (by decide) | exact zq_adr (zq_adn (by decide)) | omega) ?_
      dsimp only [Option.toList, List.cons_append, List.nil_append]
      refine zeP rfl rfl ?_
      refine zeP rfl rfl ?_
      refine zeK (v := -1) rfl rfl rfl ?_
      refine zeB2 rfl rfl (fun h2 => ?_) (fun h2 => ?_)
      · refine zeK (v := -1) rfl rfl rfl ?_
        exact zeRe rfl rfl rfl rfl (by simp only [xl_taXL, h1, h2, cond_true, cond_false] <;> rfl) (by simp only [xl_taXL, h1, h2, cond_true, cond_false] <;> rfl)
      · refine zeP rfl rfl ?_
        refine zeGR rfl rfl zS00 rfl rfl ?_
        refine zeGI rfl rfl (shM bb43) rfl rfl ?_
        refine zeKn (c := 99999) rfl rfl rfl ?_
        refine zeB2 rfl rfl (fun h3 => ?_) (fun h3 => ?_)
        · have cn : (x_nextByTurn m 43) = Int32.ofNat (x_nextByTurn m 43).toNatClampNeg ∧ (x_nextByTurn m 43).toNatClampNeg < 4 ∧ x_sDone m 43 (x_nextByTurn m 43).toNatClampNeg = 0 := nt_ok hC2 (ne1_of2 (by assumption))
          refine zeP rfl rfl ?_
          refine zeGR rfl rfl zS00 rfl rfl ?_
          refine zeKn (c := (x_nextByTurn m 43).toNatClampNeg) rfl rfl cn.1 ?_
          refine zeCV rfl rfl rfl rfl (shM bb43) rfl ((xc_takeStep (m := m) (b := 43) (t := ((x_nextByTurn m 43).toNatClampNeg)) bb43 hC2 (hK2.run cn.2.1 cn.2.2) cn.2.1).1) (by first | exact zq_adn (by decide) | exact zq_adr (zq_adn (by decide)) | omega) ?_
          dsimp only [Option.toList, List.cons_append, List.nil_append]
          refine zeP rfl rfl ?_
          refine zeInc rfl rfl ?_
          refine zeP rfl rfl ?_
          simp only [xl_taXL, h1, h2, h3, cond_true, cond_false]
          exact ih ((k + 1)) (some (.int (x_nextByTurn m 43)))  ((x_takeStep m 43 (((x_nextByTurn m 43).toNatClampNeg))).2) (by first | exact zq_adn (by decide) | exact zq_adr (zq_adn (by decide)) | omega) (takeStep_kc bb43 hC2 (hK2.run cn.2.1 cn.2.2) cn.2.1).2 (takeStep_kc bb43 hC2 (hK2.run cn.2.1 cn.2.2) cn.2.1).1
        · refine zeK (v := -1) rfl rfl rfl ?_
          exact zeRe rfl rfl rfl rfl (by simp only [xl_taXL, h1, h2, h3, cond_true, cond_false] <;> rfl) (by simp only [xl_taXL, h1, h2, h3, cond_true, cond_false] <;> rfl)
    · refine zeP rfl rfl ?_
      exact zeRe rfl rfl rfl rfl (by simp only [xl_taXL, h1, cond_true, cond_false] <;> rfl) (by simp only [xl_taXL, h1, cond_true, cond_false] <;> rfl)
noncomputable def e_taX (m : Nat → Nat → Int32) (x : Int32) (q : Int32) : Int32 × (Nat → Nat → Int32) := (bif zc1 .ge q then ((xl_taXL x ((q.toNatClampNeg)) ((q.toNatClampNeg)) 0 ((zm2 ((x_copyFrom m 43 1)) ((43 + 3)) 4 x))).1, (xl_taXL x ((q.toNatClampNeg)) ((q.toNatClampNeg)) 0 ((zm2 ((x_copyFrom m 43 1)) ((43 + 3)) 4 x))).2) else ((-1), m))
theorem ec_taX {σ : Nat → Nat × (Nat → Int32)} {yy : (Nat → Nat → Int64) × Bool × Nat × Nat} {m : Nat → Nat → Int32} {x : Int32} {q : Int32} (hC : CG m 1) (hK : KX m 1 P0) (hC2 : CG m 43) (hK2 : KX m 43 P0) (hq : q.toInt ≤ 400) : zF σ 6 1625 [.ref 0, .int (-1), .int x, .int q] (zS1, m, yy) (.inl (some (.int (e_taX m x q).1))) (zS1, (e_taX m x q).2, yy) := by
  intro d hd
  obtain ⟨d, rfl⟩ : ∃ k, d = k + 1 := ⟨d - 1, by omega⟩
  show zEv σ (d + 1) 1625 0 [some (.ref 0), some (.int (-1)), some (.int x), some (.int q), none, none] [] _ _ _
  refine zeP rfl rfl ?_
  refine zeB1 rfl rfl (fun h1 => ?_) (fun h1 => ?_)
  · have cq : q = Int32.ofNat q.toNatClampNeg ∧ q.toNatClampNeg ≤ 400 := (ge0_of (by assumption) hq)
    refine zeP rfl rfl ?_
    refine zeGR rfl rfl zS00 rfl rfl ?_
    refine zeP rfl rfl ?_
    refine zeGR rfl rfl zS00 rfl rfl ?_
    refine zeCV rfl rfl rfl rfl (shM bb43) rfl (xc_copyFrom (m := m) (b := 43) (c := 1) bb43 bb1 (Or.inr (by first | exact zq_adn (by decide) | exact zq_adr (zq_adn (by decide)) | omega)) hC.c hC.c4 (fun t ht => (hK.1 t ht).2.2.2.1)) (by first | exact zq_adn (by decide) | exact zq_adr (zq_adn (by decide)) | omega) ?_
    dsimp only [Option.toList, List.cons_append, List.nil_append]
    refine zeP rfl rfl ?_
    refine zeGR rfl rfl zS00 rfl rfl ?_
    refine zeGR rfl rfl (shM bb43) rfl rfl ?_
    refine zeKn (c := 4) rfl rfl rfl ?_
    refine zeP rfl rfl ?_
    refine zeAS (k := 4) rfl (shE bb43) rfl (by first | exact zq_adn (by decide) | exact zq_adr (zq_adn (by decide)) | omega) ?_
    refine zeKn (c := 0) rfl rfl rfl ?_
    refine zeP rfl rfl ?_
    simp only [e_taX, h1, cond_true, cond_false]
    have ez := xw_taXL (x := x) (n0 := (q.toNatClampNeg)) (σ := σ) (yy := yy) (d := d) (by first | exact zq_adn (by decide) | exact zq_adr (zq_adn (by decide)) | omega) cq.2 ((q.toNatClampNeg)) (0) (none)  ((zm2 ((x_copyFrom m 43 1)) ((43 + 3)) 4 x)) (by first | exact zq_adn (by decide) | exact zq_adr (zq_adn (by decide)) | omega) (CG.put (CG.copy (Or.inr (by first | exact zq_adn (by decide) | exact zq_adr (zq_adn (by decide)) | omega)) hC2 hC) _ (ncE (by first | exact zq_adn (by decide) | exact zq_adr (zq_adn (by decide)) | omega))) (KX.put (KX.copy (Or.inr (by first | exact zq_adn (by decide) | exact zq_adr (zq_adn (by decide)) | omega)) hK2 hK hC) _ (ndX (by first | exact zq_adn (by decide) | exact zq_adr (zq_adn (by decide)) | omega) (by first | exact zq_adn (by decide) | exact zq_adr (zq_adn (by decide)) | omega)))
    rw [← cq.1] at ez
    exact ez
  · refine zeK (v := -1) rfl rfl rfl ?_
    exact zeRe rfl rfl rfl rfl (by simp only [e_taX, h1, cond_true, cond_false] <;> rfl) (by simp only [e_taX, h1, cond_true, cond_false] <;> rfl)
noncomputable def e_due (m : Nat → Nat → Int32) (t : Int32) : (Int32 ⊕ Nat) × (Nat → Nat → Int32) := (bif sOK m t then ((.inl ((e_taT m ((t.toNatClampNeg)) ((m ((1 + 3)) 4)) ((Int32.ofNat 400))).1)), (e_taT m ((t.toNatClampNeg)) ((m ((1 + 3)) 4)) ((Int32.ofNat 400))).2) else ((.inr 0), m))
theorem ec_due {σ : Nat → Nat × (Nat → Int32)} {yy : (Nat → Nat → Int64) × Bool × Nat × Nat} {m : Nat → Nat → Int32} {t : Int32} (hC : CG m 1) (hK : KX m 1 P0) (hC2 : CG m 43) (hK2 : KX m 43 P0) : zF σ 7 1622 [.ref 0, .int t] (zS1, m, yy) (xo (e_due m t).1) (zS1, (e_due m t).2, (xy yy (e_due m t).1)) := by
  intro d hd
  obtain ⟨d, rfl⟩ : ∃ k, d = k + 1 := ⟨d - 1, by omega⟩
  show zEv σ (d + 1) 1622 0 [some (.ref 0), some (.int t)] [] _ _ _
  refine zeP rfl rfl ?_
  refine zeP rfl rfl ?_
  cases h1 : sOK m t with
  | false =>
    exact zeThX rfl rfl rfl rfl rfl rfl (xn_1638 (m := m) (x := t) h1) (by first | exact zq_adn (by decide) | exact zq_adr (zq_adn (by decide)) | omega) rfl rfl (by simp only [e_due, h1, cond_true, cond_false] <;> rfl) (by simp only [e_due, h1, cond_true, cond_false] <;> rfl)
  | true =>
    have c1 := xk_1638 (x := t) hC h1
    refine zeCV rfl rfl rfl rfl zS00 rfl (xo_1638 (m := m) (x := t) h1 hC) (by first | exact zq_adn (by decide) | exact zq_adr (zq_adn (by decide)) | omega) ?_
    dsimp only [Option.toList, List.cons_append, List.nil_append]
    have t4 : t.toNatClampNeg < 4 := by have := hC.c4; omega
    refine zeP rfl rfl ?_
    refine zeP rfl rfl ?_
    refine zeKn (c := t.toNatClampNeg) rfl rfl c1.1 ?_
    refine zeP rfl rfl ?_
    refine zeGR rfl rfl zS00 rfl rfl ?_
    refine zeGR rfl rfl (shM bb1) rfl rfl ?_
    refine zeKn (c := 4) rfl rfl rfl ?_
    refine zeAL (k := 4) rfl rfl (shE bb1) rfl (by first | exact zq_adn (by decide) | exact zq_adr (zq_adn (by decide)) | omega) ?_
    refine zeKn (c := 400) rfl rfl rfl ?_
    refine zeCV rfl rfl rfl rfl zS00 rfl (ec_taT (m := m) (t := (t.toNatClampNeg)) (x := (m ((1 + 3)) 4)) (q := (Int32.ofNat 400)) hC hK hC2 hK2 (by decide) t4) (by first | exact zq_adn (by decide) | exact zq_adr (zq_adn (by decide)) | omega) ?_
    dsimp only [Option.toList, List.cons_append, List.nil_append]
    exact zeRe rfl rfl rfl rfl (by simp only [e_due, h1, cond_true, cond_false] <;> rfl) (by simp only [e_due, h1, cond_true, cond_false] <;> rfl)
noncomputable def e_plain (m : Nat → Nat → Int32) : Int32 × (Nat → Nat → Int32) := ((e_taX m ((Int32.ofNat 16)) ((Int32.ofNat 400))).1, (e_taX m ((Int32.ofNat 16)) ((Int32.ofNat 400))).2)
theorem ec_plain {σ : Nat → Nat × (Nat → Int32)} {yy : (Nat → Nat → Int64) × Bool × Nat × Nat} {m : Nat → Nat → Int32} (hC : CG m 1) (hK : KX m 1 P0) (hC2 : CG m 43) (hK2 : KX m 43 P0) : zF σ 7 1624 [.ref 0] (zS1, m, yy) (.inl (some (.int (e_plain m).1))) (zS1, (e_plain m).2, yy) := by
  intro d hd
  obtain ⟨d, rfl⟩ : ∃ k, d = k + 1 := ⟨d - 1, by omega⟩
  show zEv σ (d + 1) 1624 0 [some (.ref 0)] [] _ _ _
  refine zeP rfl rfl ?_
  refine zeK (v := -1) rfl rfl rfl ?_
  refine zeKn (c := 16) rfl rfl rfl ?_
  refine zeKn (c := 400) rfl rfl rfl ?_
  refine zeCV rfl rfl rfl rfl zS00 rfl (ec_taX (m := m) (x := (Int32.ofNat 16)) (q := (Int32.ofNat 400)) hC hK hC2 hK2 (by decide)) (by first | exact zq_adn (by decide) | exact zq_adr (zq_adn (by decide)) | omega) ?_
  dsimp only [Option.toList, List.cons_append, List.nil_append]
  exact zeRe rfl rfl rfl rfl (by rfl) (by rfl)
