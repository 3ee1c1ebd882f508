/-! looking ahead keeps the order, and touches the draft alone -/
noncomputable def TAo (P : Nat → Nat → Int32) (q : Int32 × (Nat → Nat → Int32)) : Prop := CG q.2 43 ∧ KX q.2 43 P0 ∧ FB q.2 43 P ∧ (q.1 = -1 ∨ ∃ v, v ≤ 400 ∧ q.1 = Int32.ofNat v)
theorem TAo.mk {P m : Nat → Nat → Int32} {v : Int32} (hc : CG m 43) (hk : KX m 43 P0) (hf : FB m 43 P) (hv : v = -1 ∨ ∃ u, u ≤ 400 ∧ v = Int32.ofNat u) : TAo P (v, m) := ⟨hc, hk, hf, hv⟩
theorem taTL_ok {P : Nat → Nat → Int32} {t n0 : Nat} {x : Int32} (h0 : n0 ≤ 400) : ∀ (n k : Nat) (m : Nat → Nat → Int32), k + n = n0 → CG m 43 → KX m 43 P0 → FB m 43 P → TAo P (xl_taTL t x n0 n k m) := by
  intro n
  induction n with
  | zero =>
    intro k m hk hc hx hf
    rw [xl_taTL]
    exact cndi (TAo P) (TAo.mk hc hx hf (Or.inl rfl)) (TAo.mk hc hx hf (Or.inr ⟨n0, h0, rfl⟩))
  | succ n ih =>
    intro k m hk hc hx hf
    rw [xl_taTL]
    refine cnd4 (TAo P) (fun _ => cnd4 (TAo P) (fun _ => TAo.mk hc hx hf (Or.inl rfl)) (fun e => cnd4 (TAo P) (fun _ => ?_) (fun _ => TAo.mk hc hx hf (Or.inl rfl)))) (fun _ => TAo.mk hc hx hf (Or.inr ⟨k, by omega, rfl⟩))
    have cn := nt_ok hc (ne1_of2 e)
    have hr := hx.run cn.2.1 cn.2.2
    have g := takeStep_kc bb43 hc hr cn.2.1
    exact ih _ _ (by first | exact zq_adn (by decide) | exact zq_adr (zq_adn (by decide)) | omega) g.2 g.1 (hf.takeStep hc hr cn.2.1)
theorem taXL_ok {P : Nat → Nat → Int32} {n0 : Nat} {x : Int32} (h0 : n0 ≤ 400) : ∀ (n k : Nat) (m : Nat → Nat → Int32), k + n = n0 → CG m 43 → KX m 43 P0 → FB m 43 P → TAo P (xl_taXL x n0 n k m) := by
  intro n
  induction n with
  | zero =>
    intro k m hk hc hx hf
    rw [xl_taXL]
    exact cndi (TAo P) (TAo.mk hc hx hf (Or.inl rfl)) (TAo.mk hc hx hf (Or.inr ⟨n0, h0, rfl⟩))
  | succ n ih =>
    intro k m hk hc hx hf
    rw [xl_taXL]
    refine cnd4 (TAo P) (fun _ => cnd4 (TAo P) (fun _ => TAo.mk hc hx hf (Or.inl rfl)) (fun e => cnd4 (TAo P) (fun _ => ?_) (fun _ => TAo.mk hc hx hf (Or.inl rfl)))) (fun _ => TAo.mk hc hx hf (Or.inr ⟨k, by omega, rfl⟩))
    have cn := nt_ok hc (ne1_of2 e)
    have hr := hx.run cn.2.1 cn.2.2
    have g := takeStep_kc bb43 hc hr cn.2.1
    exact ih _ _ (by first | exact zq_adn (by decide) | exact zq_adr (zq_adn (by decide)) | omega) g.2 g.1 (hf.takeStep hc hr cn.2.1)
section ZTA
variable {m : Nat → Nat → Int32} {t : Nat} {x q : Int32}
theorem nle_of (hq : q.toInt ≤ 400) : q.toNatClampNeg ≤ 400 := by
  have h3 : q.toNatClampNeg = q.toInt.toNat := rfl
  omega
theorem cpy43_c (hC : CG m 1) (hC2 : CG m 43) : CG (zm2 (x_copyFrom m 43 1) (43 + 3) 4 x) 43 := CG.put (CG.copy (Or.inr (by first | exact zq_adn (by decide) | exact zq_adr (zq_adn (by decide)) | omega)) hC2 hC) _ (ncE (by first | exact zq_adn (by decide) | exact zq_adr (zq_adn (by decide)) | omega))
theorem cpy43_k (hK : KX m 1 P0) (hC : CG m 1) (hK2 : KX m 43 P0) : KX (zm2 (x_copyFrom m 43 1) (43 + 3) 4 x) 43 P0 := KX.put (KX.copy (Or.inr (by first | exact zq_adn (by decide) | exact zq_adr (zq_adn (by decide)) | omega)) hK2 hK hC) _ (ndX (by first | exact zq_adn (by decide) | exact zq_adr (zq_adn (by decide)) | omega) (by first | exact zq_adn (by decide) | exact zq_adr (zq_adn (by decide)) | omega))
theorem cpy43_f (hC : CG m 1) : FB (zm2 (x_copyFrom m 43 1) (43 + 3) 4 x) 43 m := FB.put (FB.copy (Or.inr (by first | exact zq_adn (by decide) | exact zq_adr (zq_adn (by decide)) | omega)) hC FB.refl) _ ⟨by omega, by omega⟩
theorem taT_ok (hC : CG m 1) (hK : KX m 1 P0) (hC2 : CG m 43) (hK2 : KX m 43 P0) (hq : q.toInt ≤ 400) : TAo m (e_taT m t x q) := by
  unfold e_taT
  exact cnd4 (TAo m) (fun _ => taTL_ok (nle_of hq) _ _ _ (by first | exact zq_adn (by decide) | exact zq_adr (zq_adn (by decide)) | omega) (cpy43_c hC hC2) (cpy43_k hK hC hK2) (cpy43_f hC)) (fun _ => TAo.mk hC2 hK2 FB.refl (Or.inl rfl))
theorem taX_ok (hC : CG m 1) (hK : KX m 1 P0) (hC2 : CG m 43) (hK2 : KX m 43 P0) (hq : q.toInt ≤ 400) : TAo m (e_taX m x q) := by
  unfold e_taX
  exact cnd4 (TAo m) (fun _ => taXL_ok (nle_of hq) _ _ _ (by first | exact zq_adn (by decide) | exact zq_adr (zq_adn (by decide)) | omega) (cpy43_c hC hC2) (cpy43_k hK hC hK2) (cpy43_f hC)) (fun _ => TAo.mk hC2 hK2 FB.refl (Or.inl rfl))
noncomputable def SQ (s : Int32) : Prop := ∃ v, v ≤ 401 ∧ s = Int32.ofNat v
theorem SQ.le1 {s : Int32} (h : SQ s) : (s - Int32.ofNat 1).toInt ≤ 400 := by
  obtain ⟨v, hv, rfl⟩ := h
  cases v with
  | zero => decide
  | succ w =>
    have e : Int32.ofNat (w + 1) = Int32.ofNat w + Int32.ofNat 1 := Int32.ofNat_add w 1
    show (Int32.ofNat (w + 1) - Int32.ofNat 1).toInt ≤ 400
    rw [e, Int32.add_sub_cancel, zoN (by first | exact zq_adn (by decide) | exact zq_adr (zq_adn (by decide)) | omega)]
    omega
theorem SQ.of {s : Int32} (h : s = -1 ∨ ∃ v, v ≤ 400 ∧ s = Int32.ofNat v) (hn : s ≠ -1) : SQ s := by
  rcases h with h | ⟨v, hv, e⟩
  · exact absurd h hn
  · exact ⟨v, by omega, e⟩
end ZTA
noncomputable def xl_quickL (f : Int32) : Nat → Int32 → Int32 → Nat → (Nat → Nat → Int32) → Int32 × (Nat → Nat → Int32)
  | 0, a, s, k, m => (bif zc2 .ne a (-1) then (bif zc1 .eq f then (s, m) else (a, m)) else ((-1), m))
  | n + 1, a, s, k, m => (bif zc2 .eq (e_taX m ((Int32.ofNat k)) ((s - (Int32.ofNat 1)))).1 (-1) then (xl_quickL f n a s ((k + 1)) ((e_taX m ((Int32.ofNat k)) ((s - (Int32.ofNat 1)))).2)) else (xl_quickL f n ((Int32.ofNat k)) ((e_taX m ((Int32.ofNat k)) ((s - (Int32.ofNat 1)))).1) ((k + 1)) ((e_taX m ((Int32.ofNat k)) ((s - (Int32.ofNat 1)))).2)))
theorem xw_quickL {σ : Nat → Nat × (Nat → Int32)} {yy : (Nat → Nat → Int64) × Bool × Nat × Nat} {f : Int32} {d : Nat} (hd : 7 ≤ d + 1) : ∀ (n : Nat) (x1 : Option Value) (a : Int32) (s : Int32) (k : Nat) (x6 : Option Value) (m : Nat → Nat → Int32), k + n = 17 → CG m 1 → KX m 1 P0 → CG m 43 → KX m 43 P0 → SQ s → zEv σ (d + 1) 1623 23 [some (.ref 0), x1, some (.int f), some (.int a), some (.int s), some (.int (Int32.ofNat k)), x6] [] (zS1, m, yy) (.inl (some (.int (xl_quickL f n a s k m).1))) (zS1, ((xl_quickL f n a s k m).2), yy) := by
  intro n
  induction n with
  | zero =>
    intro x1 a s k x6 m hk hC hK hC2 hK2 hs
    refine zeP rfl rfl ?_
    refine zeKn (c := 16) rfl rfl rfl ?_
    refine zeT2 rfl rfl (zcgt (by first | exact zq_adn (by decide) | exact zq_adr (zq_adn (by decide)) | omega) (by first | exact zq_adn (by decide) | exact zq_adr (zq_adn (by decide)) | omega) (by first | exact zq_adn (by decide) | exact zq_adr (zq_adn (by decide)) | omega)) ?_
    refine zeP rfl rfl ?_
    refine zeK (v := -1) rfl rfl rfl ?_
    refine zeB2 rfl rfl (fun h1 => ?_) (fun h1 => ?_)
    · refine zeP rfl rfl ?_
      refine zeB1 rfl rfl (fun h2 => ?_) (fun h2 => ?_)
      · refine zeP rfl rfl ?_
        exact zeRe rfl rfl rfl rfl (by simp only [xl_quickL, h1, h2, cond_true, cond_false] <;> rfl) (by simp only [xl_quickL, h1, h2, cond_true, cond_false] <;> rfl)
      · refine zeP rfl rfl ?_
        refine zeP rfl rfl ?_
        exact zeRe rfl rfl rfl rfl (by simp only [xl_quickL, h1, h2, cond_true, cond_false] <;> rfl) (by simp only [xl_quickL, h1, h2, cond_true, cond_false] <;> rfl)
    · refine zeK (v := -1) rfl rfl rfl ?_
      exact zeRe rfl rfl rfl rfl (by simp only [xl_quickL, h1, cond_true, cond_false] <;> rfl) (by simp only [xl_quickL, h1, cond_true, cond_false] <;> rfl)
  | succ n ih =>
    intro x1 a s k x6 m hk hC hK hC2 hK2 hs
    refine zeP rfl rfl ?_
    refine zeKn (c := 16) rfl rfl rfl ?_
    refine zeF2 rfl rfl (zcgt_f (by first | exact zq_adn (by decide) | exact zq_adr (zq_adn (by decide)) | omega) (by first | exact zq_adn (by decide) | exact zq_adr (zq_adn (by decide)) | omega) (by first | exact zq_adn (by decide) | exact zq_adr (zq_adn (by decide)) | omega)) ?_
    refine zeP rfl rfl ?_
    refine zeK (v := -1) rfl rfl rfl ?_
    refine zeP rfl rfl ?_
    refine zeP rfl rfl ?_
    refine zeKn (c := 1) rfl rfl rfl ?_
    refine zeP rfl rfl ?_
    refine zeCV rfl rfl rfl rfl zS00 rfl (ec_taX (m := m) (x := (Int32.ofNat k)) (q := (s - (Int32.ofNat 1))) hC hK hC2 hK2 hs.le1) (by first | exact zq_adn (by decide) | exact zq_adr (zq_adn (by decide)) | omega) ?_
    dsimp only [Option.toList, List.cons_append, List.nil_append]
    refine zeP rfl rfl ?_
    refine zeP rfl rfl ?_
    refine zeK (v := -1) rfl rfl rfl ?_
    refine zeB2 rfl rfl (fun h1 => ?_) (fun h1 => ?_)
    · refine zeInc rfl rfl ?_
      refine zeP rfl rfl ?_
      simp only [xl_quickL, h1, cond_true, cond_false]
      exact ih (x1) (a) (s) ((k + 1)) (some (.int (e_taX m ((Int32.ofNat k)) ((s - (Int32.ofNat 1)))).1))  ((e_taX m ((Int32.ofNat k)) ((s - (Int32.ofNat 1)))).2) (by first | exact zq_adn (by decide) | exact zq_adr (zq_adn (by decide)) | omega) (hC.fb (taX_ok hC hK hC2 hK2 hs.le1).2.2.1 (Or.inl (by first | exact zq_adn (by decide) | exact zq_adr (zq_adn (by decide)) | omega))) (hK.fb (taX_ok hC hK hC2 hK2 hs.le1).2.2.1 (Or.inl (by first | exact zq_adn (by decide) | exact zq_adr (zq_adn (by decide)) | omega))) (taX_ok hC hK hC2 hK2 hs.le1).1 (taX_ok hC hK hC2 hK2 hs.le1).2.1 (by first | exact hs | exact SQ.of (taX_ok hC hK hC2 hK2 hs.le1).2.2.2 (ne1_of2 (by assumption)))
    · refine zeP rfl rfl ?_
      refine zeP rfl rfl ?_
      refine zeP rfl rfl ?_
      refine zeP rfl rfl ?_
      refine zeInc rfl rfl ?_
      refine zeP rfl rfl ?_
      simp only [xl_quickL, h1, cond_true, cond_false]
      exact ih (x1) ((Int32.ofNat k)) ((e_taX m ((Int32.ofNat k)) ((s - (Int32.ofNat 1)))).1) ((k + 1)) (some (.int (e_taX m ((Int32.ofNat k)) ((s - (Int32.ofNat 1)))).1))  ((e_taX m ((Int32.ofNat k)) ((s - (Int32.ofNat 1)))).2) (by first | exact zq_adn (by decide) | exact zq_adr (zq_adn (by decide)) | omega) (hC.fb (taX_ok hC hK hC2 hK2 hs.le1).2.2.1 (Or.inl (by first | exact zq_adn (by decide) | exact zq_adr (zq_adn (by decide)) | omega))) (hK.fb (taX_ok hC hK hC2 hK2 hs.le1).2.2.1 (Or.inl (by first | exact zq_adn (by decide) | exact zq_adr (zq_adn (by decide)) | omega))) (taX_ok hC hK hC2 hK2 hs.le1).1 (taX_ok hC hK hC2 hK2 hs.le1).2.1 (by first | exact hs | exact SQ.of (taX_ok hC hK hC2 hK2 hs.le1).2.2.2 (ne1_of2 (by assumption)))
noncomputable def e_quickest (m : Nat → Nat → Int32) (x : Int32) : (Int32 ⊕ Nat) × (Nat → Nat → Int32) := (bif tOK x then (bif zc1 .ne (Int32.ofNat (x.toNatClampNeg)) then ((.inl (xl_quickL ((Int32.ofNat 0)) 17 ((-1)) ((Int32.ofNat 401)) 0 m).1), (xl_quickL ((Int32.ofNat 0)) 17 ((-1)) ((Int32.ofNat 401)) 0 m).2) else ((.inl (xl_quickL ((Int32.ofNat 1)) 17 ((-1)) ((Int32.ofNat 401)) 0 m).1), (xl_quickL ((Int32.ofNat 1)) 17 ((-1)) ((Int32.ofNat 401)) 0 m).2)) else ((.inr 1), m))
theorem ec_quickest {σ : Nat → Nat × (Nat → Int32)} {yy : (Nat → Nat → Int64) × Bool × Nat × Nat} {m : Nat → Nat → Int32} {x : Int32} (hC : CG m 1) (hK : KX m 1 P0) (hC2 : CG m 43) (hK2 : KX m 43 P0) : zF σ 7 1623 [.ref 0, .int x] (zS1, m, yy) (xo (e_quickest m x).1) (zS1, (e_quickest m x).2, (xy yy (e_quickest m x).1)) := by
  intro d hd
  obtain ⟨d, rfl⟩ : ∃ k, d = k + 1 := ⟨d - 1, by omega⟩
  show zEv σ (d + 1) 1623 0 [some (.ref 0), some (.int x), none, none, none, none, none] [] _ _ _
  refine zeP rfl rfl ?_
  cases h1 : tOK x with
  | false =>
    exact zeThX rfl rfl rfl rfl rfl rfl (xn_1640 (m := m) (x := x) h1) (by first | exact zq_adn (by decide) | exact zq_adr (zq_adn (by decide)) | omega) rfl rfl (by simp only [e_quickest, h1, cond_true, cond_false] <;> rfl) (by simp only [e_quickest, h1, cond_true, cond_false] <;> rfl)
  | true =>
    have c1 := xk_1640 (x := x) h1
    refine zeCF rfl rfl rfl rfl rfl rfl (xo_1640 (m := m) (x := x) h1) (by first | exact zq_adn (by decide) | exact zq_adr (zq_adn (by decide)) | omega) ?_
    dsimp only [Option.toList, List.cons_append, List.nil_append]
    refine zeB1 rfl rfl (fun h2 => ?_) (fun h2 => ?_)
    · refine zeKn (c := 0) rfl rfl rfl ?_
      refine zeP rfl rfl ?_
      refine zeK (v := -1) rfl rfl rfl ?_
      refine zeP rfl rfl ?_
      refine zeKn (c := 401) rfl rfl rfl ?_
      refine zeP rfl rfl ?_
      refine zeKn (c := 0) rfl rfl rfl ?_
      refine zeP rfl rfl ?_
      simp only [e_quickest, h1, h2, cond_true, cond_false]
      exact xw_quickL (f := (Int32.ofNat 0)) (by first | exact zq_adn (by decide) | exact zq_adr (zq_adn (by decide)) | omega)  17 (some (.int x)) ((-1)) ((Int32.ofNat 401)) (0) (none)  m (by first | exact zq_adn (by decide) | exact zq_adr (zq_adn (by decide)) | omega) hC hK hC2 hK2 ⟨401, by omega, rfl⟩
    · refine zeKn (c := 1) rfl rfl rfl ?_
      refine zeP rfl rfl ?_
      refine zeP rfl rfl ?_
      refine zeK (v := -1) rfl rfl rfl ?_
      refine zeP rfl rfl ?_
      refine zeKn (c := 401) rfl rfl rfl ?_
      refine zeP rfl rfl ?_
      refine zeKn (c := 0) rfl rfl rfl ?_
      refine zeP rfl rfl ?_
      simp only [e_quickest, h1, h2, cond_true, cond_false]
      exact xw_quickL (f := (Int32.ofNat 1)) (by first | exact zq_adn (by decide) | exact zq_adr (zq_adn (by decide)) | omega)  17 (some (.int x)) ((-1)) ((Int32.ofNat 401)) (0) (none)  m (by first | exact zq_adn (by decide) | exact zq_adr (zq_adn (by decide)) | omega) hC hK hC2 hK2 ⟨401, by omega, rfl⟩
theorem zeDec {σ : Nat → Nat × (Nat → Int32)} {d j pc a k : Nat} {n : Int} {w : Int32} {lv : zLv} {r : List Value} {M M' : zMem} {o : zO} (hf : zfe j pc = some (.iinc k n, 3)) (hl : lv[k]? = some (some (.int (Int32.ofNat a)))) (he : Int32.ofNat a + Int32.ofInt n = w) (kk : zEv σ d j (pc + 3) (lv.set k (some (.int w))) r M o M') : zEv σ d j pc lv r M o M' := by
  subst he
  refine zeP hf ?_ kk
  simp only [zP, hl] <;> rfl
theorem zx_f0 (m : Nat → Nat → Int32) (k l : Nat) (x : Int32) : zm2 m 127 k x 0 l = m 0 l := zx_ne _ _ _ (by decide)
noncomputable def e_feed1 (m : Nat → Nat → Int32) (x : Int32) (n : Nat) : (Nat → Nat → Int32) := (zm2 ((zm2 ((zm2 ((zm2 ((zm2 ((zm2 ((zm2 ((zm2 m 127 n (vp_nar .byte (((x >>> ((Int32.ofNat 24) &&& 31))).toInt8.toInt32)))) 0 5 ((Int32.ofNat (n + 1))))) 127 ((n + 1)) (vp_nar .byte (((x >>> ((Int32.ofNat 16) &&& 31))).toInt8.toInt32)))) 0 5 ((Int32.ofNat ((n + 1) + 1))))) 127 (((n + 1) + 1)) (vp_nar .byte (((x >>> ((Int32.ofNat 8) &&& 31))).toInt8.toInt32)))) 0 5 ((Int32.ofNat (((n + 1) + 1) + 1))))) 127 ((((n + 1) + 1) + 1)) (vp_nar .byte (((x >>> ((Int32.ofNat 0) &&& 31))).toInt8.toInt32)))) 0 5 ((Int32.ofNat ((((n + 1) + 1) + 1) + 1))))
theorem ec_feed1 {σ : Nat → Nat × (Nat → Int32)} {yy : (Nat → Nat → Int64) × Bool × Nat × Nat} {m : Nat → Nat → Int32} {x : Int32} {n : Nat} (h5 : m 0 5 = Int32.ofNat n) (hn : n + 4 ≤ 400) : zF σ 1 1602 [.ref 0, .int x] (zS1, m, yy) (.inl none) (zS1, (e_feed1 m x n), yy) := by
  intro d hd
  obtain ⟨d, rfl⟩ : ∃ k, d = k + 1 := ⟨d - 1, by omega⟩
  show zEv σ (d + 1) 1602 0 [some (.ref 0), some (.int x), none] [] _ _ _
  refine zeKn (c := 24) rfl rfl rfl ?_
  refine zeP rfl rfl ?_
  refine zeP rfl rfl ?_
  refine zeF1 rfl rfl (show zc1 .lt (Int32.ofNat 24) = false by decide) ?_
  refine zeP rfl rfl ?_
  refine zeGI rfl rfl zS00 rfl rfl ?_
  rw [(show (m 0 5) = Int32.ofNat n from (by simp only [zx_at, zx_f0, h5]))]
  refine zeKn (c := 400) rfl rfl rfl ?_
  refine zeF2 rfl rfl (zcge_f (by first | exact zq_adn (by decide) | exact zq_adr (zq_adn (by decide)) | omega) (by first | exact zq_adn (by decide) | exact zq_adr (zq_adn (by decide)) | omega) (by first | exact zq_adn (by decide) | exact zq_adr (zq_adn (by decide)) | omega)) ?_
  refine zeP rfl rfl ?_
  refine zeGR rfl rfl zS00 rfl rfl ?_
  refine zeP rfl rfl ?_
  refine zeGI rfl rfl zS00 rfl rfl ?_
  rw [(show (m 0 5) = Int32.ofNat n from (by simp only [zx_at, zx_f0, h5]))]
  refine zeP rfl rfl ?_
  refine zeP rfl rfl ?_
  refine zeP rfl rfl ?_
  refine zeP rfl rfl ?_
  refine zeBS (k := n) rfl zS127 rfl (by first | exact zq_adn (by decide) | exact zq_adr (zq_adn (by decide)) | omega) ?_
  refine zeP rfl rfl ?_
  refine zeP rfl rfl ?_
  refine zeGI rfl rfl zS00 rfl rfl ?_
  rw [(show (((zm2 m 127 n (vp_nar .byte (((x >>> ((Int32.ofNat 24) &&& 31))).toInt8.toInt32)))) 0 5) = Int32.ofNat n from (by simp only [zx_at, zx_f0, h5]))]
  refine zeKn (c := 1) rfl rfl rfl ?_
  refine zeAdd rfl ?_
  refine zePI rfl rfl zS00 rfl ?_
  refine zeDec (w := (Int32.ofNat 16)) rfl rfl (by decide) ?_
  refine zeP rfl rfl ?_
  refine zeP rfl rfl ?_
  refine zeF1 rfl rfl (show zc1 .lt (Int32.ofNat 16) = false by decide) ?_
  refine zeP rfl rfl ?_
  refine zeGI rfl rfl zS00 rfl rfl ?_
  rw [(show (((zm2 ((zm2 m 127 n (vp_nar .byte (((x >>> ((Int32.ofNat 24) &&& 31))).toInt8.toInt32)))) 0 5 ((Int32.ofNat (n + 1))))) 0 5) = Int32.ofNat (n + 1) from (by simp only [zx_at, zx_f0, h5]))]
  refine zeKn (c := 400) rfl rfl rfl ?_
  refine zeF2 rfl rfl (zcge_f (by first | exact zq_adn (by decide) | exact zq_adr (zq_adn (by decide)) | omega) (by first | exact zq_adn (by decide) | exact zq_adr (zq_adn (by decide)) | omega) (by first | exact zq_adn (by decide) | exact zq_adr (zq_adn (by decide)) | omega)) ?_
  refine zeP rfl rfl ?_
  refine zeGR rfl rfl zS00 rfl rfl ?_
  refine zeP rfl rfl ?_
  refine zeGI rfl rfl zS00 rfl rfl ?_
  rw [(show (((zm2 ((zm2 m 127 n (vp_nar .byte (((x >>> ((Int32.ofNat 24) &&& 31))).toInt8.toInt32)))) 0 5 ((Int32.ofNat (n + 1))))) 0 5) = Int32.ofNat (n + 1) from (by simp only [zx_at, zx_f0, h5]))]
  refine zeP rfl rfl ?_
  refine zeP rfl rfl ?_
  refine zeP rfl rfl ?_
  refine zeP rfl rfl ?_
  refine zeBS (k := (n + 1)) rfl zS127 rfl (by first | exact zq_adn (by decide) | exact zq_adr (zq_adn (by decide)) | omega) ?_
  refine zeP rfl rfl ?_
  refine zeP rfl rfl ?_
  refine zeGI rfl rfl zS00 rfl rfl ?_
  rw [(show (((zm2 ((zm2 ((zm2 m 127 n (vp_nar .byte (((x >>> ((Int32.ofNat 24) &&& 31))).toInt8.toInt32)))) 0 5 ((Int32.ofNat (n + 1))))) 127 ((n + 1)) (vp_nar .byte (((x >>> ((Int32.ofNat 16) &&& 31))).toInt8.toInt32)))) 0 5) = Int32.ofNat (n + 1) from (by simp only [zx_at, zx_f0, h5]))]
  refine zeKn (c := 1) rfl rfl rfl ?_
  refine zeAdd rfl ?_
  refine zePI rfl rfl zS00 rfl ?_
  refine zeDec (w := (Int32.ofNat 8)) rfl rfl (by decide) ?_
  refine zeP rfl rfl ?_
  refine zeP rfl rfl ?_
  refine zeF1 rfl rfl (show zc1 .lt (Int32.ofNat 8) = false by decide) ?_
  refine zeP rfl rfl ?_
  refine zeGI rfl rfl zS00 rfl rfl ?_
  rw [(show (((zm2 ((zm2 ((zm2 ((zm2 m 127 n (vp_nar .byte (((x >>> ((Int32.ofNat 24) &&& 31))).toInt8.toInt32)))) 0 5 ((Int32.ofNat (n + 1))))) 127 ((n + 1)) (vp_nar .byte (((x >>> ((Int32.ofNat 16) &&& 31))).toInt8.toInt32)))) 0 5 ((Int32.ofNat ((n + 1) + 1))))) 0 5) = Int32.ofNat ((n + 1) + 1) from (by simp only [zx_at, zx_f0, h5]))]
  refine zeKn (c := 400) rfl rfl rfl ?_
  refine zeF2 rfl rfl (zcge_f (by first | exact zq_adn (by decide) | exact zq_adr (zq_adn (by decide)) | omega) (by first | exact zq_adn (by decide) | exact zq_adr (zq_adn (by decide)) | omega) (by first | exact zq_adn (by decide) | exact zq_adr (zq_adn (by decide)) | omega)) ?_
  refine zeP rfl rfl ?_
  refine zeGR rfl rfl zS00 rfl rfl ?_
  refine zeP rfl rfl ?_
  refine zeGI rfl rfl zS00 rfl rfl ?_
  rw [(show (((zm2 ((zm2 ((zm2 ((zm2 m 127 n (vp_nar .byte (((x >>> ((Int32.ofNat 24) &&& 31))).toInt8.toInt32)))) 0 5 ((Int32.ofNat (n + 1))))) 127 ((n + 1)) (vp_nar .byte (((x >>> ((Int32.ofNat 16) &&& 31))).toInt8.toInt32)))) 0 5 ((Int32.ofNat ((n + 1) + 1))))) 0 5) = Int32.ofNat ((n + 1) + 1) from (by simp only [zx_at, zx_f0, h5]))]
  refine zeP rfl rfl ?_
  refine zeP rfl rfl ?_
  refine zeP rfl rfl ?_
  refine zeP rfl rfl ?_
  refine zeBS (k := ((n + 1) + 1)) rfl zS127 rfl (by first | exact zq_adn (by decide) | exact zq_adr (zq_adn (by decide)) | omega) ?_
  refine zeP rfl rfl ?_
  refine zeP rfl rfl ?_
  refine zeGI rfl rfl zS00 rfl rfl ?_
  rw [(show (((zm2 ((zm2 ((zm2 ((zm2 ((zm2 m 127 n (vp_nar .byte (((x >>> ((Int32.ofNat 24) &&& 31))).toInt8.toInt32)))) 0 5 ((Int32.ofNat (n + 1))))) 127 ((n + 1)) (vp_nar .byte (((x >>> ((Int32.ofNat 16) &&& 31))).toInt8.toInt32)))) 0 5 ((Int32.ofNat ((n + 1) + 1))))) 127 (((n + 1) + 1)) (vp_nar .byte (((x >>> ((Int32.ofNat 8) &&& 31))).toInt8.toInt32)))) 0 5) = Int32.ofNat ((n + 1) + 1) from (by simp only [zx_at, zx_f0, h5]))]
  refine zeKn (c := 1) rfl rfl rfl ?_
  refine zeAdd rfl ?_
  refine zePI rfl rfl zS00 rfl ?_
  refine zeDec (w := (Int32.ofNat 0)) rfl rfl (by decide) ?_
  refine zeP rfl rfl ?_
  refine zeP rfl rfl ?_
  refine zeF1 rfl rfl (show zc1 .lt (Int32.ofNat 0) = false by decide) ?_
  refine zeP rfl rfl ?_
  refine zeGI rfl rfl zS00 rfl rfl ?_
  rw [(show (((zm2 ((zm2 ((zm2 ((zm2 ((zm2 ((zm2 m 127 n (vp_nar .byte (((x >>> ((Int32.ofNat 24) &&& 31))).toInt8.toInt32)))) 0 5 ((Int32.ofNat (n + 1))))) 127 ((n + 1)) (vp_nar .byte (((x >>> ((Int32.ofNat 16) &&& 31))).toInt8.toInt32)))) 0 5 ((Int32.ofNat ((n + 1) + 1))))) 127 (((n + 1) + 1)) (vp_nar .byte (((x >>> ((Int32.ofNat 8) &&& 31))).toInt8.toInt32)))) 0 5 ((Int32.ofNat (((n + 1) + 1) + 1))))) 0 5) = Int32.ofNat (((n + 1) + 1) + 1) from (by simp only [zx_at, zx_f0, h5]))]
  refine zeKn (c := 400) rfl rfl rfl ?_
  refine zeF2 rfl rfl (zcge_f (by first | exact zq_adn (by decide) | exact zq_adr (zq_adn (by decide)) | omega) (by first | exact zq_adn (by decide) | exact zq_adr (zq_adn (by decide)) | omega) (by first | exact zq_adn (by decide) | exact zq_adr (zq_adn (by decide)) | omega)) ?_
  refine zeP rfl rfl ?_
  refine zeGR rfl rfl zS00 rfl rfl ?_
  refine zeP rfl rfl ?_
  refine zeGI rfl rfl zS00 rfl rfl ?_
  rw [(show (((zm2 ((zm2 ((zm2 ((zm2 ((zm2 ((zm2 m 127 n (vp_nar .byte (((x >>> ((Int32.ofNat 24) &&& 31))).toInt8.toInt32)))) 0 5 ((Int32.ofNat (n + 1))))) 127 ((n + 1)) (vp_nar .byte (((x >>> ((Int32.ofNat 16) &&& 31))).toInt8.toInt32)))) 0 5 ((Int32.ofNat ((n + 1) + 1))))) 127 (((n + 1) + 1)) (vp_nar .byte (((x >>> ((Int32.ofNat 8) &&& 31))).toInt8.toInt32)))) 0 5 ((Int32.ofNat (((n + 1) + 1) + 1))))) 0 5) = Int32.ofNat (((n + 1) + 1) + 1) from (by simp only [zx_at, zx_f0, h5]))]
  refine zeP rfl rfl ?_
  refine zeP rfl rfl ?_
  refine zeP rfl rfl ?_
  refine zeP rfl rfl ?_
  refine zeBS (k := (((n + 1) + 1) + 1)) rfl zS127 rfl (by first | exact zq_adn (by decide) | exact zq_adr (zq_adn (by decide)) | omega) ?_
  refine zeP rfl rfl ?_
  refine zeP rfl rfl ?_
  refine zeGI rfl rfl zS00 rfl rfl ?_
  rw [(show (((zm2 ((zm2 ((zm2 ((zm2 ((zm2 ((zm2 ((zm2 m 127 n (vp_nar .byte (((x >>> ((Int32.ofNat 24) &&& 31))).toInt8.toInt32)))) 0 5 ((Int32.ofNat (n + 1))))) 127 ((n + 1)) (vp_nar .byte (((x >>> ((Int32.ofNat 16) &&& 31))).toInt8.toInt32)))) 0 5 ((Int32.ofNat ((n + 1) + 1))))) 127 (((n + 1) + 1)) (vp_nar .byte (((x >>> ((Int32.ofNat 8) &&& 31))).toInt8.toInt32)))) 0 5 ((Int32.ofNat (((n + 1) + 1) + 1))))) 127 ((((n + 1) + 1) + 1)) (vp_nar .byte (((x >>> ((Int32.ofNat 0) &&& 31))).toInt8.toInt32)))) 0 5) = Int32.ofNat (((n + 1) + 1) + 1) from (by simp only [zx_at, zx_f0, h5]))]
  refine zeKn (c := 1) rfl rfl rfl ?_
  refine zeAdd rfl ?_
  refine zePI rfl rfl zS00 rfl ?_
  refine zeDec (w := (-8)) rfl rfl (by decide) ?_
  refine zeP rfl rfl ?_
  refine zeP rfl rfl ?_
  refine zeT1 rfl rfl (show zc1 .lt (-8) = true by decide) ?_
  exact zeRe rfl rfl rfl rfl (by rfl) (by rfl)
theorem feed1_5 {m : Nat → Nat → Int32} {x : Int32} {n : Nat} : e_feed1 m x n 0 5 = Int32.ofNat (n + 4) := by
  unfold e_feed1
  exact zx_at _ _ _ _
theorem feed1_i {m : Nat → Nat → Int32} {x : Int32} {n i l : Nat} (h1 : i ≠ 127) (h2 : i ≠ 0 ∨ l ≠ 5) : e_feed1 m x n i l = m i l := by
  unfold e_feed1
  have g : ∀ (m : Nat → Nat → Int32) y, zm2 m 0 5 y i l = m i l := fun m y => zx_o _ _ (by first | exact zq_adn (by decide) | exact zq_adr (zq_adn (by decide)) | omega)
  have f : ∀ (m : Nat → Nat → Int32) k y, zm2 m 127 k y i l = m i l := fun m k y => zx_ne _ _ _ h1
  simp only [g, f]
noncomputable def e_feed (m : Nat → Nat → Int32) (a : Int32) (b : Int32) (c : Int32) (e : Int32) (f : Int32) (n : Nat) : Int32 × (Nat → Nat → Int32) := (bif zc2 .le (Int32.ofNat (n + 20)) (Int32.ofNat 400) then ((Int32.ofNat (n + 20)), (e_feed1 ((e_feed1 ((e_feed1 ((e_feed1 ((e_feed1 m a n)) b ((n + 4)))) c ((n + 8)))) e ((n + 12)))) f ((n + 16)))) else ((-1), m))
theorem ec_feed {σ : Nat → Nat × (Nat → Int32)} {yy : (Nat → Nat → Int64) × Bool × Nat × Nat} {m : Nat → Nat → Int32} {a : Int32} {b : Int32} {c : Int32} {e : Int32} {f : Int32} {n : Nat} (h5 : m 0 5 = Int32.ofNat n) (hn : n ≤ 400) : zF σ 2 1601 [.ref 0, .int a, .int b, .int c, .int e, .int f] (zS1, m, yy) (.inl (some (.int (e_feed m a b c e f n).1))) (zS1, (e_feed m a b c e f n).2, yy) := by
  intro d hd
  obtain ⟨d, rfl⟩ : ∃ k, d = k + 1 := ⟨d - 1, by omega⟩
  show zEv σ (d + 1) 1601 0 [some (.ref 0), some (.int a), some (.int b), some (.int c), some (.int e), some (.int f)] [] _ _ _
  refine zeP rfl rfl ?_
  refine zeGI rfl rfl zS00 rfl rfl ?_
  rw [h5]
  refine zeKn (c := 20) rfl rfl rfl ?_
  refine zeAdd rfl ?_
  refine zeKn (c := 400) rfl rfl rfl ?_
  refine zeB2 rfl rfl (fun h1 => ?_) (fun h1 => ?_)
  · have h20 := tle_t (by first | exact zq_adn (by decide) | exact zq_adr (zq_adn (by decide)) | omega) (by first | exact zq_adn (by decide) | exact zq_adr (zq_adn (by decide)) | omega) h1
    refine zeP rfl rfl ?_
    refine zeP rfl rfl ?_
    refine zeCV rfl rfl rfl rfl zS00 rfl (ec_feed1 (m := m) (x := a) (n := n) h5 (by first | exact zq_adn (by decide) | exact zq_adr (zq_adn (by decide)) | omega)) (by first | exact zq_adn (by decide) | exact zq_adr (zq_adn (by decide)) | omega) ?_
    dsimp only [Option.toList, List.cons_append, List.nil_append]
    refine zeP rfl rfl ?_
    refine zeP rfl rfl ?_
    refine zeCV rfl rfl rfl rfl zS00 rfl (ec_feed1 (m := (e_feed1 m a n)) (x := b) (n := (n + 4)) feed1_5 (by first | exact zq_adn (by decide) | exact zq_adr (zq_adn (by decide)) | omega)) (by first | exact zq_adn (by decide) | exact zq_adr (zq_adn (by decide)) | omega) ?_
    dsimp only [Option.toList, List.cons_append, List.nil_append]
    refine zeP rfl rfl ?_
    refine zeP rfl rfl ?_
    refine zeCV rfl rfl rfl rfl zS00 rfl (ec_feed1 (m := (e_feed1 ((e_feed1 m a n)) b ((n + 4)))) (x := c) (n := (n + 8)) feed1_5 (by first | exact zq_adn (by decide) | exact zq_adr (zq_adn (by decide)) | omega)) (by first | exact zq_adn (by decide) | exact zq_adr (zq_adn (by decide)) | omega) ?_
    dsimp only [Option.toList, List.cons_append, List.nil_append]
    refine zeP rfl rfl ?_
    refine zeP rfl rfl ?_
    refine zeCV rfl rfl rfl rfl zS00 rfl (ec_feed1 (m := (e_feed1 ((e_feed1 ((e_feed1 m a n)) b ((n + 4)))) c ((n + 8)))) (x := e) (n := (n + 12)) feed1_5 (by first | exact zq_adn (by decide) | exact zq_adr (zq_adn (by decide)) | omega)) (by first | exact zq_adn (by decide) | exact zq_adr (zq_adn (by decide)) | omega) ?_
    dsimp only [Option.toList, List.cons_append, List.nil_append]
    refine zeP rfl rfl ?_
    refine zeP rfl rfl ?_
    refine zeCV rfl rfl rfl rfl zS00 rfl (ec_feed1 (m := (e_feed1 ((e_feed1 ((e_feed1 ((e_feed1 m a n)) b ((n + 4)))) c ((n + 8)))) e ((n + 12)))) (x := f) (n := (n + 16)) feed1_5 (by first | exact zq_adn (by decide) | exact zq_adr (zq_adn (by decide)) | omega)) (by first | exact zq_adn (by decide) | exact zq_adr (zq_adn (by decide)) | omega) ?_
    dsimp only [Option.toList, List.cons_append, List.nil_append]
    refine zeP rfl rfl ?_
    refine zeGI rfl rfl zS00 rfl rfl ?_
    rw [feed1_5]
    exact zeRe rfl rfl rfl rfl (by simp only [e_feed, h1, cond_true, cond_false] <;> rfl) (by simp only [e_feed, h1, cond_true, cond_false] <;> rfl)
  · refine zeK (v := -1) rfl rfl rfl ?_
    exact zeRe rfl rfl rfl rfl (by simp only [e_feed, h1, cond_true, cond_false] <;> rfl) (by simp only [e_feed, h1, cond_true, cond_false] <;> rfl)
