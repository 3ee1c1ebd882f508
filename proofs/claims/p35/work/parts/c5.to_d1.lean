/-! c5.ckx c6.cpar d0.erule d1.ecls -/
section
/-! the class's draft stays in order as a text is read -/
section ZCX
variable {m : Nat → Nat → Int32} {b t l : Nat} {P : Nat → Prop}
theorem ncX {a k : Nat} (h : a = b + 1 ∨ a = b + 2 ∨ a = b + 3) : ¬ CGc b a k := by
  intro h
  rcases h with ⟨_, _⟩ | ⟨_, _⟩ | ⟨u, _, ⟨_, _⟩ | _⟩ | ⟨l, _, _, _⟩ <;> omega
theorem ncT {j k : Nat} (ht : t < 4) (hj : j ≤ 3) : ¬ CGc b (b + (10 + j) + 7 * t) k := by
  intro h
  rcases h with ⟨_, _⟩ | ⟨_, _⟩ | ⟨u, _, ⟨_, _⟩ | _⟩ | ⟨l, _, _, _⟩ <;> omega
theorem CG.setw {n : Nat} (h : CG m b) (hl : l < 4) (hn : n ≤ 31) : CG (zm2 m (b + 5 + l) 0 (Int32.ofNat n)) b := by
  refine ⟨h.1.of (zx_ne _ _ _ (by omega)), h.2.1.of (zx_ne _ _ _ (by omega)), fun t ht => ⟨(h.2.2.1 t ht).1.of (zx_ne _ _ _ (by omega)), fun k hk => ((h.2.2.1 t ht).2 k hk).of (zx_ne _ _ _ (by omega))⟩, h.2.2.2.1.of (zx_ne _ _ _ (by omega)), fun u hu => ?_⟩
  by_cases e : u = l
  · subst e
    exact okm.is (zx_at _ _ _ _) hn (by omega)
  · exact (h.2.2.2.2 u hu).of (zx_ne _ _ _ (by omega))
theorem CG.setc {n : Nat} (h : CG m b) (hn : n ≤ 4) : CG (zm2 m b 5 (Int32.ofNat n)) b :=
  ⟨h.1.of (zx_ne _ _ _ (by omega)), okm.is (zx_at _ _ _ _) hn (by omega), fun t ht => ⟨(h.2.2.1 t ht).1.of (zx_ne _ _ _ (by omega)), fun k hk => ((h.2.2.1 t ht).2 k hk).of (zx_ne _ _ _ (by omega))⟩, h.2.2.2.1.of (zx_nk _ _ (by omega)), fun u hu => (h.2.2.2.2 u hu).of (zx_ne _ _ _ (by omega))⟩
theorem CG.clear (h : CG m b) (ht : t < 4) : CG (x_clear m b t) b := by
  have key : ∀ n k (m : Nat → Nat → Int32), CG m b → CG (xl_clear b t n k m) b := by
    intro n
    induction n with
    | zero => intro k m h; exact h.close ht
    | succ n ih => intro k m h; exact ih _ _ (h.put _ (ncT (j := 3) ht (by omega)))
  unfold x_clear
  exact key _ _ _ ((((((h.put _ (ncS ht)).put _ (ncS ht)).put _ (ncS ht)).put _ (ncS ht)).put _ (ncS ht)).put _ (ncS ht))
theorem CG.addDeed {x y : Int32} (h : CG m b) (ht : t < 4) : CG (x_addDeed m b t x y) b := by
  unfold x_addDeed
  exact cndi (fun q : Nat → Nat → Int32 => CG q b) h (((h.put _ (ncT (j := 1) ht (by omega))).put _ (ncT (j := 2) ht (by omega))).put _ (ncS ht))
theorem KX.set2 {n : Nat} (h : KX m b P) (ht : t < 4) (hn : n ≤ 24) : KX (zm2 m (b + 10 + 7 * t) 2 (Int32.ofNat n)) b P := by
  refine ⟨fun u hu => ?_, h.2.1.of (zx_ne _ _ _ (by omega)), fun u hu hp => ?_⟩
  · by_cases e : u = t
    · subst e
      obtain ⟨a1, a2, a3, a4, a5⟩ := h.1 u hu
      refine ⟨okm.is (zx_at _ _ _ _) hn (by omega), a2.of (zx_nk _ _ (by omega)), a3.of (zx_ne _ _ _ (by omega)), by rw [zx_ne _ _ _ (by omega)]; exact a4, fun p hp => ?_⟩
      rw [mv_of (m := m) (zx_ne _ _ _ (by omega)), mv_of (m := m) (zx_ne _ _ _ (by omega))]
      exact ⟨(a5 p hp).1.of (zx_ne _ _ _ (by omega)), (a5 p hp).2.1.of (zx_ne _ _ _ (by omega)), (a5 p hp).2.2⟩
    · exact (h.1 u hu).of (zx_ne _ _ _ (by omega)) ((h.1 u hu).2.1.of (zx_ne _ _ _ (by omega))) ((h.1 u hu).2.2.1.of (zx_ne _ _ _ (by omega))) (by rw [zx_ne _ _ _ (by omega)]; exact (h.1 u hu).2.2.2.1) (fun p => zx_ne _ _ _ (by omega)) (fun p => zx_ne _ _ _ (by omega))
  · rw [mv_of (m := m) (zx_o _ _ (by omega))]
    exact h.2.2 u hu hp
theorem KX.deed {q K n : Nat} (h : KX m b P) (ht : t < 4) (hK : K ≤ 7) (hn : n ≤ 999) (h1 : K ≤ 1 → n ≤ 3) (h3 : K ≤ 3 → n ≤ 31) : KX (zm2 (zm2 m (b + 11 + 7 * t) q (Int32.ofNat K)) (b + 12 + 7 * t) q (Int32.ofNat n)) b P := by
  refine ⟨fun u hu => ?_, h.2.1.of (by rw [zx_ne _ _ _ (by omega), zx_ne _ _ _ (by omega)]), fun u hu hp => ?_⟩
  · obtain ⟨a1, a2, a3, a4, a5⟩ := h.1 u hu
    refine ⟨a1.of (by rw [zx_ne _ _ _ (by omega), zx_ne _ _ _ (by omega)]), a2.of (by rw [zx_ne _ _ _ (by omega), zx_ne _ _ _ (by omega)]), a3.of (by rw [zx_ne _ _ _ (by omega), zx_ne _ _ _ (by omega)]), by rw [zx_ne _ _ _ (by omega), zx_ne _ _ _ (by omega)]; exact a4, fun p hp => ?_⟩
    by_cases e : u = t ∧ p = q
    · obtain ⟨rfl, rfl⟩ := e
      have eK : zm2 (zm2 m (b + 11 + 7 * u) p (Int32.ofNat K)) (b + 12 + 7 * u) p (Int32.ofNat n) (b + 11 + 7 * u) p = Int32.ofNat K := by rw [zx_ne _ _ _ (by omega), zx_at]
      have eN : zm2 (zm2 m (b + 11 + 7 * u) p (Int32.ofNat K)) (b + 12 + 7 * u) p (Int32.ofNat n) (b + 12 + 7 * u) p = Int32.ofNat n := zx_at _ _ _ _
      refine ⟨okm.is eK hK (by omega), okm.is eN hn (by omega), ?_⟩
      unfold mv
      rw [eK, eN, nv_on (by omega), nv_on (by omega)]
      exact ⟨h1, h3⟩
    · have eK : zm2 (zm2 m (b + 11 + 7 * t) q (Int32.ofNat K)) (b + 12 + 7 * t) q (Int32.ofNat n) (b + 11 + 7 * u) p = m (b + 11 + 7 * u) p := by rw [zx_ne _ _ _ (by omega), zx_o _ _ (by omega)]
      have eN : zm2 (zm2 m (b + 11 + 7 * t) q (Int32.ofNat K)) (b + 12 + 7 * t) q (Int32.ofNat n) (b + 12 + 7 * u) p = m (b + 12 + 7 * u) p := by rw [zx_o _ _ (by omega), zx_ne _ _ _ (by omega)]
      rw [mv_of eK, mv_of eN]
      exact ⟨(a5 p hp).1.of eK, (a5 p hp).2.1.of eN, (a5 p hp).2.2⟩
  · rw [mv_of (m := m) (by rw [zx_ne _ _ _ (by omega), zx_ne _ _ _ (by omega)])]
    exact h.2.2 u hu hp
theorem KX.addDeed {K n : Nat} (h : KX m b P) (ht : t < 4) (hK : K ≤ 7) (hn : n ≤ 999) (h1 : K ≤ 1 → n ≤ 3) (h3 : K ≤ 3 → n ≤ 31) : KX (x_addDeed m b t (Int32.ofNat K) (Int32.ofNat n)) b P := by
  unfold x_addDeed
  refine cnd4 (fun q : Nat → Nat → Int32 => KX q b P) (fun _ => h) (fun hg => ?_)
  have := (h.1 t ht).1.2
  have := tge_f (by omega) (by omega) hg
  exact (h.deed ht hK hn h1 h3).set2 ht (by omega)
theorem KX.clear (h : KX m b P) (ht : t < 4) : KX (x_clear m b t) b P := by
  have key : ∀ n k (m : Nat → Nat → Int32), KX m b P → KX (xl_clear b t n k m) b P := by
    intro n
    induction n with
    | zero => intro k m h; exact h.close ht
    | succ n ih => intro k m h; exact ih _ _ (h.put _ (ndF ht))
  unfold x_clear
  exact key _ _ _ ((((((h.set2 ht (by omega)).at (n := 0) ht (by omega) (fun _ => by omega)).put _ (ndS ht (by omega) (by omega))).put _ (ndS ht (by omega) (by omega))).put _ (ndS ht (by omega) (by omega))).put _ (ndS ht (by omega) (by omega)))
end ZCX
/-- the draft, and the Reader's text -/
noncomputable def YC (T : Nat → Int32) (e : Nat) (X : Int32 × (Nat → Nat → Int32) × Nat × Nat) : Prop := YB T e X ∧ CG X.2.1 43 ∧ KX X.2.1 43 P0
theorem YC.mk {T : Nat → Int32} {e : Nat} {v : Int32} {m : Nat → Nat → Int32} {p b : Nat} (h0 : XR m T e) (h1 : p ≤ e) (h2 : b ≤ p) (h3 : v = 0 ∨ v = 1) (h4 : CG m 43) (h5 : KX m 43 P0) : YC T e (v, m, p, b) := ⟨YB.mk h0 h1 h2 h3, h4, h5⟩
theorem YC.num {T : Nat → Int32} {e p : Nat} {lo hi v : Int32} {m : Nat → Nat → Int32} (h0 : XR m T e) (hp : p ≤ e) (hv : v = 0 ∨ v = 1) (h4 : CG m 43) (h5 : KX m 43 P0) : YC T e (v, m, (y_readNumber T e p lo hi).2.1, (y_readNumber T e p lo hi).2.2) := ⟨YB.num h0 hp hv, h4, h5⟩
section ZYC
variable {T : Nat → Int32} {e : Nat} {m : Nat → Nat → Int32} {p b t : Nat}
theorem readTerm_YC (hG : XR m T e) (hp : p ≤ e) (hb : b ≤ p) (hc : CG m 43) (hk : KX m 43 P0) : YC T e (y_readTerm T e m p b t) := by
  have a : ∀ lo hi x, YC T e (Int32.ofNat 1, zm2 m (43 + 3) t x, (y_readNumber T e p lo hi).2.1, (y_readNumber T e p lo hi).2.2) := fun lo hi x => YC.num (hG.put _ (by omega)) hp (Or.inr rfl) (hc.put _ (ncX (by omega))) (hk.put _ (ndX (by omega) (by omega)))
  have c : ∀ lo hi, YC T e (Int32.ofNat 0, m, (y_readNumber T e p lo hi).2.1, (y_readNumber T e p lo hi).2.2) := fun lo hi => YC.num hG hp (Or.inl rfl) hc hk
  unfold y_readTerm
  exact cnd4 (YC T e) (fun _ => cnd4 (YC T e) (fun _ => a _ _ _) (fun _ => c _ _)) (fun _ => cnd4 (YC T e) (fun _ => cnd4 (YC T e) (fun _ => a _ _ _) (fun _ => c _ _)) (fun _ => YC.mk hG hp hb (Or.inl rfl) hc hk))
theorem readTrustL_YC {v : Int32} : ∀ (n l : Nat) (m : Nat → Nat → Int32), l + n = 4 → XR m T e ∧ CG m 43 ∧ KX m 43 P0 → (XR (yl_readTrust v n l m).2 T e ∧ CG (yl_readTrust v n l m).2 43 ∧ KX (yl_readTrust v n l m).2 43 P0) ∧ (yl_readTrust v n l m).1 = 1 := by
  intro n
  induction n with
  | zero => intro l m _ h; exact ⟨h, rfl⟩
  | succ n ih => intro l m hk h; exact ih _ _ (by omega) ⟨h.1.put _ (by omega), h.2.1.put _ (ncL (by omega) (by omega)), h.2.2.put _ (ndL (by omega))⟩
theorem readTrust_YC (hG : XR m T e) (hp : p ≤ e) (hc : CG m 43) (hk : KX m 43 P0) : YC T e (y_readTrust T e m p) := by
  unfold y_readTrust
  refine cnd4 (YC T e) (fun _ => ?_) (fun _ => YC.num hG hp (Or.inl rfl) hc hk)
  have h := readTrustL_YC (T := T) (e := e) (v := (y_readNumber T e p (Int32.ofNat 0) (Int32.ofNat 15)).1) 4 0 m rfl ⟨hG, hc, hk⟩
  exact YC.num h.1.1 hp (Or.inr h.2) h.1.2.1 h.1.2.2
theorem readWord_YC (hG : XR m T e) (hp : p ≤ e) (hc : CG m 43) (hk : KX m 43 P0) : YC T e (y_readWord T e m p) := by
  have h1 := (ynum_le (T := T) (lo := Int32.ofNat 0) (hi := Int32.ofNat 31) hG.2.2 hp).2.1
  unfold y_readWord
  exact cnd4 (YC T e) (fun _ => cnd4 (YC T e) (fun _ => YC.num ((hG.put _ (by omega)).put _ (by omega)) h1 (Or.inr rfl) ((hc.put _ (ncX (by omega))).put _ (ncX (by omega))) ((hk.put _ (ndX (by omega) (by omega))).put _ (ndX (by omega) (by omega)))) (fun _ => YC.num hG h1 (Or.inl rfl) hc hk)) (fun _ => YC.num hG hp (Or.inl rfl) hc hk)
theorem readLock_YC (hG : XR m T e) (hp : p ≤ e) (hc : CG m 43) (hk : KX m 43 P0) : YC T e (y_readLock T e m p) := by
  have h1 := (ynum_le (T := T) (lo := Int32.ofNat 0) (hi := Int32.ofNat 3) hG.2.2 hp).2.1
  have h2 := yname_le (T := T) (s := 1) hG.2.2 h1
  unfold y_readLock
  refine cnd4 (YC T e) (fun _ => YC.num hG hp (Or.inl rfl) hc hk) (fun k1 => cnd4 (YC T e) (fun _ => cnd4 (YC T e) (fun _ => YC.num hG h2.1 (Or.inl rfl) hc hk) (fun k3 => cnd4 (YC T e) (fun _ => ?_) (fun _ => YC.num hG h2.1 (Or.inl rfl) hc hk))) (fun _ => YC.mk hG h2.1 h2.2 (Or.inl rfl) hc hk))
  have g1 := ynum_k (by omega) (by omega) (zeq_f k1)
  have g3 := ynum_k (by omega) (by omega) (zeq_f k3)
  refine YC.num (hG.put _ (by omega)) h2.1 (Or.inr rfl) ?_ (hk.put _ (ndL (by omega)))
  rw [g3.1]
  exact hc.setw (by omega) g3.2.1
/-- what numbers a deed may bear -/
theorem deed_bd : ∀ K, K ≤ 7 → K ≠ 7 → ∃ a c, (zla 2).getD K 0 = Int32.ofNat a ∧ (zla 3).getD K 0 = Int32.ofNat c ∧ a ≤ 9 ∧ c ≤ 999 ∧ (K ≤ 1 → c ≤ 3) ∧ (K ≤ 3 → c ≤ 31) := by
  intro K hK h7
  match K, hK, h7 with
  | 0, _, _ => exact ⟨0, 3, rfl, rfl, by omega, by omega, by omega, by omega⟩
  | 1, _, _ => exact ⟨0, 3, rfl, rfl, by omega, by omega, by omega, by omega⟩
  | 2, _, _ => exact ⟨0, 31, rfl, rfl, by omega, by omega, by omega, by omega⟩
  | 3, _, _ => exact ⟨0, 31, rfl, rfl, by omega, by omega, by omega, by omega⟩
  | 4, _, _ => exact ⟨0, 999, rfl, rfl, by omega, by omega, by omega, by omega⟩
  | 5, _, _ => exact ⟨0, 999, rfl, rfl, by omega, by omega, by omega, by omega⟩
  | 6, _, _ => exact ⟨1, 9, rfl, rfl, by omega, by omega, by omega, by omega⟩
  | 7, _, h => exact absurd rfl h
  | k + 8, h, _ => exact absurd h (by omega)
theorem readDeed_YC (hG : XR m T e) (hp : p ≤ e) (ht : t < 4) (hc : CG m 43) (hk : KX m 43 P0) : YC T e (y_readDeed T e m p t) := by
  have h1 := yname_le (T := T) (s := 2) hG.2.2 hp
  have hx : ∀ x y, XR (x_addDeed m 43 t x y) T e := fun x y => hG.same (fun i l a1 a2 => addDeed_ne (by omega))
  unfold y_readDeed
  refine cnd4 (YC T e) (fun _ => YC.mk hG h1.1 h1.2 (Or.inl rfl) hc hk) (fun k1 => cnd4 (YC T e) (fun k2 => ?_) (fun _ => YC.mk hG h1.1 h1.2 (Or.inl rfl) hc hk))
  have hK := (i7_of (by omega) k1 k2).2
  revert hK
  generalize ((y_readName T e p 2).1).toNatClampNeg = K
  intro hK
  refine cnd4 (YC T e) (fun k7 => cnd4 (YC T e) (fun kn => ?_) (fun _ => YC.num hG h1.1 (Or.inl rfl) hc hk)) (fun k7 => ?_)
  · have h7 := tne_t k7
    obtain ⟨a, c, e1, e2, e3, e4, e5, e6⟩ := deed_bd K hK h7
    rw [e1, e2] at kn ⊢
    have g := ynum_k (by omega) (by omega) (zne_t kn)
    refine YC.num (hx _ _) h1.1 (Or.inr rfl) (hc.addDeed ht) ?_
    rw [g.1]
    exact hk.addDeed ht hK (by omega) (fun q => by have := e5 q; omega) (fun q => by have := e6 q; omega)
  · have h7 : K = 7 := tne_f (by omega) (by omega) k7
    subst h7
    exact YC.mk (hx _ _) h1.1 h1.2 (Or.inr rfl) (hc.addDeed ht) (hk.addDeed (n := 0) ht (by omega) (by omega) (by omega) (by omega))
theorem prog_YC (ht : t < 4) : ∀ (n k : Nat) (m : Nat → Nat → Int32) (p b : Nat), XR m T e → p ≤ e → CG m 43 → KX m 43 P0 → YC T e (yl_prog T e t n k m p b) := by
  intro n
  induction n with
  | zero =>
    intro k m p b hG hp hc hk
    have h := lkB_le (T := T) hG.2.2 hp
    exact YC.mk hG h.2 (Nat.le_refl _) (Or.inl rfl) hc hk
  | succ n ih =>
    intro k m p b hG hp hc hk
    obtain ⟨⟨r1, r2, r3, r4⟩, r5, r6⟩ := readDeed_YC (t := t) hG hp ht hc hk
    have h := lkB_le (T := T) hG.2.2 r2
    have h2 := yskip_le (T := T) (c := 44) hG.2.2 h.2
    unfold yl_prog
    exact cnd4 (YC T e) (fun _ => cnd4 (YC T e) (fun _ => ih _ _ _ _ r1 h2.2 r5 r6) (fun _ => YC.mk r1 h2.2 h2.1 (Or.inr rfl) r5 r6)) (fun _ => YC.mk r1 r2 r3 (Or.inl rfl) r5 r6)
theorem readProgram_YC (hG : XR m T e) (hp : p ≤ e) (hb : b ≤ p) (hc : CG m 43) (hk : KX m 43 P0) : YC T e (y_readProgram T e m p b) := by
  unfold y_readProgram
  refine cnd4 (YC T e) (fun h4 => ?_) (fun _ => YC.mk hG hp hb (Or.inl rfl) hc hk)
  have h5 := hc.c4
  have hlt := zlt_t4 (by omega) (by omega) h4
  exact prog_YC hlt _ _ _ _ _ ((hG.same (fun i l a1 a2 => clear_ne (by omega))).put _ (by omega)) hp ((hc.clear hlt).setc (by omega)) ((hk.clear hlt).put _ (ndM (by omega)))
end ZYC
end
section
noncomputable def y_line0 (T : (Nat → Int32)) (e : Nat) (m : (Nat → Nat → Int32)) (p : Nat) (b : Nat) : Int32 × (Nat → Nat → Int32) × Nat × Nat := ((y_readTerm T e m p b 0).1, (y_readTerm T e m p b 0).2.1, (y_readTerm T e m p b 0).2.2.1, (y_readTerm T e m p b 0).2.2.2)
theorem yp_line0 {σ : Nat → Nat × (Nat → Int32)} {yy : (Nat → Nat → Int64) × Bool × Nat × Nat} {m : Nat → Nat → Int32} {p b : Nat} {T : Nat → Int32} {e : Nat} {d : Nat} (hd : 4 ≤ d + 1) (hG : XR m T e) (hp : p ≤ e) (hbp : b ≤ p) (hs : ZS σ) : zEv σ (d + 1) 1002 7 [some (.ref 128), some (.int (Int32.ofNat 0))] [] (zS1, XP m p b, yy) (.inl (some (.int (y_line0 T e m p b).1))) (zS1, XP ((y_line0 T e m p b).2.1) ((y_line0 T e m p b).2.2.1) ((y_line0 T e m p b).2.2.2), yy) := by
  refine zeP rfl rfl ?_
  refine zeP rfl rfl ?_
  refine zeP rfl rfl ?_
  refine zeKn (c := 8) rfl rfl rfl ?_
  refine zeF2 rfl rfl (show zc2 .ge (Int32.ofNat 0) (Int32.ofNat 8) = false by decide) ?_
  refine zeP rfl rfl ?_
  refine zeP rfl rfl ?_
  refine zeCV rfl rfl rfl rfl zS128 rfl (yc_readTerm (t := 0) (T := T) (e := e) (m := m) (p := p) (b := b) hG hp (by omega) hs) (by omega) ?_
  dsimp only [Option.toList, List.cons_append, List.nil_append]
  refine zeP rfl rfl ?_
  exact zeRe rfl rfl rfl (zretB rfl rfl (readTerm_YB hG hp hbp).2.2.2) (by rfl) (by rfl)
noncomputable def y_line1 (T : (Nat → Int32)) (e : Nat) (m : (Nat → Nat → Int32)) (p : Nat) (b : Nat) : Int32 × (Nat → Nat → Int32) × Nat × Nat := ((y_readTerm T e m p b 1).1, (y_readTerm T e m p b 1).2.1, (y_readTerm T e m p b 1).2.2.1, (y_readTerm T e m p b 1).2.2.2)
theorem yp_line1 {σ : Nat → Nat × (Nat → Int32)} {yy : (Nat → Nat → Int64) × Bool × Nat × Nat} {m : Nat → Nat → Int32} {p b : Nat} {T : Nat → Int32} {e : Nat} {d : Nat} (hd : 4 ≤ d + 1) (hG : XR m T e) (hp : p ≤ e) (hbp : b ≤ p) (hs : ZS σ) : zEv σ (d + 1) 1002 7 [some (.ref 128), some (.int (Int32.ofNat 1))] [] (zS1, XP m p b, yy) (.inl (some (.int (y_line1 T e m p b).1))) (zS1, XP ((y_line1 T e m p b).2.1) ((y_line1 T e m p b).2.2.1) ((y_line1 T e m p b).2.2.2), yy) := by
  refine zeP rfl rfl ?_
  refine zeP rfl rfl ?_
  refine zeP rfl rfl ?_
  refine zeKn (c := 8) rfl rfl rfl ?_
  refine zeF2 rfl rfl (show zc2 .ge (Int32.ofNat 1) (Int32.ofNat 8) = false by decide) ?_
  refine zeP rfl rfl ?_
  refine zeP rfl rfl ?_
  refine zeCV rfl rfl rfl rfl zS128 rfl (yc_readTerm (t := 1) (T := T) (e := e) (m := m) (p := p) (b := b) hG hp (by omega) hs) (by omega) ?_
  dsimp only [Option.toList, List.cons_append, List.nil_append]
  refine zeP rfl rfl ?_
  exact zeRe rfl rfl rfl (zretB rfl rfl (readTerm_YB hG hp hbp).2.2.2) (by rfl) (by rfl)
noncomputable def y_line2 (T : (Nat → Int32)) (e : Nat) (m : (Nat → Nat → Int32)) (p : Nat) (b : Nat) : Int32 × (Nat → Nat → Int32) × Nat × Nat := ((y_readTerm T e m p b 2).1, (y_readTerm T e m p b 2).2.1, (y_readTerm T e m p b 2).2.2.1, (y_readTerm T e m p b 2).2.2.2)
theorem yp_line2 {σ : Nat → Nat × (Nat → Int32)} {yy : (Nat → Nat → Int64) × Bool × Nat × Nat} {m : Nat → Nat → Int32} {p b : Nat} {T : Nat → Int32} {e : Nat} {d : Nat} (hd : 4 ≤ d + 1) (hG : XR m T e) (hp : p ≤ e) (hbp : b ≤ p) (hs : ZS σ) : zEv σ (d + 1) 1002 7 [some (.ref 128), some (.int (Int32.ofNat 2))] [] (zS1, XP m p b, yy) (.inl (some (.int (y_line2 T e m p b).1))) (zS1, XP ((y_line2 T e m p b).2.1) ((y_line2 T e m p b).2.2.1) ((y_line2 T e m p b).2.2.2), yy) := by
  refine zeP rfl rfl ?_
  refine zeP rfl rfl ?_
  refine zeP rfl rfl ?_
  refine zeKn (c := 8) rfl rfl rfl ?_
  refine zeF2 rfl rfl (show zc2 .ge (Int32.ofNat 2) (Int32.ofNat 8) = false by decide) ?_
  refine zeP rfl rfl ?_
  refine zeP rfl rfl ?_
  refine zeCV rfl rfl rfl rfl zS128 rfl (yc_readTerm (t := 2) (T := T) (e := e) (m := m) (p := p) (b := b) hG hp (by omega) hs) (by omega) ?_
  dsimp only [Option.toList, List.cons_append, List.nil_append]
  refine zeP rfl rfl ?_
  exact zeRe rfl rfl rfl (zretB rfl rfl (readTerm_YB hG hp hbp).2.2.2) (by rfl) (by rfl)
noncomputable def y_line3 (T : (Nat → Int32)) (e : Nat) (m : (Nat → Nat → Int32)) (p : Nat) (b : Nat) : Int32 × (Nat → Nat → Int32) × Nat × Nat := ((y_readTerm T e m p b 3).1, (y_readTerm T e m p b 3).2.1, (y_readTerm T e m p b 3).2.2.1, (y_readTerm T e m p b 3).2.2.2)
theorem yp_line3 {σ : Nat → Nat × (Nat → Int32)} {yy : (Nat → Nat → Int64) × Bool × Nat × Nat} {m : Nat → Nat → Int32} {p b : Nat} {T : Nat → Int32} {e : Nat} {d : Nat} (hd : 4 ≤ d + 1) (hG : XR m T e) (hp : p ≤ e) (hbp : b ≤ p) (hs : ZS σ) : zEv σ (d + 1) 1002 7 [some (.ref 128), some (.int (Int32.ofNat 3))] [] (zS1, XP m p b, yy) (.inl (some (.int (y_line3 T e m p b).1))) (zS1, XP ((y_line3 T e m p b).2.1) ((y_line3 T e m p b).2.2.1) ((y_line3 T e m p b).2.2.2), yy) := by
  refine zeP rfl rfl ?_
  refine zeP rfl rfl ?_
  refine zeP rfl rfl ?_
  refine zeKn (c := 8) rfl rfl rfl ?_
  refine zeF2 rfl rfl (show zc2 .ge (Int32.ofNat 3) (Int32.ofNat 8) = false by decide) ?_
  refine zeP rfl rfl ?_
  refine zeP rfl rfl ?_
  refine zeCV rfl rfl rfl rfl zS128 rfl (yc_readTerm (t := 3) (T := T) (e := e) (m := m) (p := p) (b := b) hG hp (by omega) hs) (by omega) ?_
  dsimp only [Option.toList, List.cons_append, List.nil_append]
  refine zeP rfl rfl ?_
  exact zeRe rfl rfl rfl (zretB rfl rfl (readTerm_YB hG hp hbp).2.2.2) (by rfl) (by rfl)
noncomputable def y_line4 (T : (Nat → Int32)) (e : Nat) (m : (Nat → Nat → Int32)) (p : Nat) (b : Nat) : Int32 × (Nat → Nat → Int32) × Nat × Nat := ((y_readTerm T e m p b 4).1, (y_readTerm T e m p b 4).2.1, (y_readTerm T e m p b 4).2.2.1, (y_readTerm T e m p b 4).2.2.2)
theorem yp_line4 {σ : Nat → Nat × (Nat → Int32)} {yy : (Nat → Nat → Int64) × Bool × Nat × Nat} {m : Nat → Nat → Int32} {p b : Nat} {T : Nat → Int32} {e : Nat} {d : Nat} (hd : 4 ≤ d + 1) (hG : XR m T e) (hp : p ≤ e) (hbp : b ≤ p) (hs : ZS σ) : zEv σ (d + 1) 1002 7 [some (.ref 128), some (.int (Int32.ofNat 4))] [] (zS1, XP m p b, yy) (.inl (some (.int (y_line4 T e m p b).1))) (zS1, XP ((y_line4 T e m p b).2.1) ((y_line4 T e m p b).2.2.1) ((y_line4 T e m p b).2.2.2), yy) := by
  refine zeP rfl rfl ?_
  refine zeP rfl rfl ?_
  refine zeP rfl rfl ?_
  refine zeKn (c := 8) rfl rfl rfl ?_
  refine zeF2 rfl rfl (show zc2 .ge (Int32.ofNat 4) (Int32.ofNat 8) = false by decide) ?_
  refine zeP rfl rfl ?_
  refine zeP rfl rfl ?_
  refine zeCV rfl rfl rfl rfl zS128 rfl (yc_readTerm (t := 4) (T := T) (e := e) (m := m) (p := p) (b := b) hG hp (by omega) hs) (by omega) ?_
  dsimp only [Option.toList, List.cons_append, List.nil_append]
  refine zeP rfl rfl ?_
  exact zeRe rfl rfl rfl (zretB rfl rfl (readTerm_YB hG hp hbp).2.2.2) (by rfl) (by rfl)
noncomputable def y_line5 (T : (Nat → Int32)) (e : Nat) (m : (Nat → Nat → Int32)) (p : Nat) (b : Nat) : Int32 × (Nat → Nat → Int32) × Nat × Nat := ((y_readTerm T e m p b 5).1, (y_readTerm T e m p b 5).2.1, (y_readTerm T e m p b 5).2.2.1, (y_readTerm T e m p b 5).2.2.2)
theorem yp_line5 {σ : Nat → Nat × (Nat → Int32)} {yy : (Nat → Nat → Int64) × Bool × Nat × Nat} {m : Nat → Nat → Int32} {p b : Nat} {T : Nat → Int32} {e : Nat} {d : Nat} (hd : 4 ≤ d + 1) (hG : XR m T e) (hp : p ≤ e) (hbp : b ≤ p) (hs : ZS σ) : zEv σ (d + 1) 1002 7 [some (.ref 128), some (.int (Int32.ofNat 5))] [] (zS1, XP m p b, yy) (.inl (some (.int (y_line5 T e m p b).1))) (zS1, XP ((y_line5 T e m p b).2.1) ((y_line5 T e m p b).2.2.1) ((y_line5 T e m p b).2.2.2), yy) := by
  refine zeP rfl rfl ?_
  refine zeP rfl rfl ?_
  refine zeP rfl rfl ?_
  refine zeKn (c := 8) rfl rfl rfl ?_
  refine zeF2 rfl rfl (show zc2 .ge (Int32.ofNat 5) (Int32.ofNat 8) = false by decide) ?_
  refine zeP rfl rfl ?_
  refine zeP rfl rfl ?_
  refine zeCV rfl rfl rfl rfl zS128 rfl (yc_readTerm (t := 5) (T := T) (e := e) (m := m) (p := p) (b := b) hG hp (by omega) hs) (by omega) ?_
  dsimp only [Option.toList, List.cons_append, List.nil_append]
  refine zeP rfl rfl ?_
  exact zeRe rfl rfl rfl (zretB rfl rfl (readTerm_YB hG hp hbp).2.2.2) (by rfl) (by rfl)
noncomputable def y_line6 (T : (Nat → Int32)) (e : Nat) (m : (Nat → Nat → Int32)) (p : Nat) (b : Nat) : Int32 × (Nat → Nat → Int32) × Nat × Nat := ((y_readTerm T e m p b 6).1, (y_readTerm T e m p b 6).2.1, (y_readTerm T e m p b 6).2.2.1, (y_readTerm T e m p b 6).2.2.2)
theorem yp_line6 {σ : Nat → Nat × (Nat → Int32)} {yy : (Nat → Nat → Int64) × Bool × Nat × Nat} {m : Nat → Nat → Int32} {p b : Nat} {T : Nat → Int32} {e : Nat} {d : Nat} (hd : 4 ≤ d + 1) (hG : XR m T e) (hp : p ≤ e) (hbp : b ≤ p) (hs : ZS σ) : zEv σ (d + 1) 1002 7 [some (.ref 128), some (.int (Int32.ofNat 6))] [] (zS1, XP m p b, yy) (.inl (some (.int (y_line6 T e m p b).1))) (zS1, XP ((y_line6 T e m p b).2.1) ((y_line6 T e m p b).2.2.1) ((y_line6 T e m p b).2.2.2), yy) := by
  refine zeP rfl rfl ?_
  refine zeP rfl rfl ?_
  refine zeP rfl rfl ?_
  refine zeKn (c := 8) rfl rfl rfl ?_
  refine zeF2 rfl rfl (show zc2 .ge (Int32.ofNat 6) (Int32.ofNat 8) = false by decide) ?_
  refine zeP rfl rfl ?_
  refine zeP rfl rfl ?_
  refine zeCV rfl rfl rfl rfl zS128 rfl (yc_readTerm (t := 6) (T := T) (e := e) (m := m) (p := p) (b := b) hG hp (by omega) hs) (by omega) ?_
  dsimp only [Option.toList, List.cons_append, List.nil_append]
  refine zeP rfl rfl ?_
  exact zeRe rfl rfl rfl (zretB rfl rfl (readTerm_YB hG hp hbp).2.2.2) (by rfl) (by rfl)
noncomputable def y_line7 (T : (Nat → Int32)) (e : Nat) (m : (Nat → Nat → Int32)) (p : Nat) (b : Nat) : Int32 × (Nat → Nat → Int32) × Nat × Nat := ((y_readTerm T e m p b 7).1, (y_readTerm T e m p b 7).2.1, (y_readTerm T e m p b 7).2.2.1, (y_readTerm T e m p b 7).2.2.2)
theorem yp_line7 {σ : Nat → Nat × (Nat → Int32)} {yy : (Nat → Nat → Int64) × Bool × Nat × Nat} {m : Nat → Nat → Int32} {p b : Nat} {T : Nat → Int32} {e : Nat} {d : Nat} (hd : 4 ≤ d + 1) (hG : XR m T e) (hp : p ≤ e) (hbp : b ≤ p) (hs : ZS σ) : zEv σ (d + 1) 1002 7 [some (.ref 128), some (.int (Int32.ofNat 7))] [] (zS1, XP m p b, yy) (.inl (some (.int (y_line7 T e m p b).1))) (zS1, XP ((y_line7 T e m p b).2.1) ((y_line7 T e m p b).2.2.1) ((y_line7 T e m p b).2.2.2), yy) := by
  refine zeP rfl rfl ?_
  refine zeP rfl rfl ?_
  refine zeP rfl rfl ?_
  refine zeKn (c := 8) rfl rfl rfl ?_
  refine zeF2 rfl rfl (show zc2 .ge (Int32.ofNat 7) (Int32.ofNat 8) = false by decide) ?_
  refine zeP rfl rfl ?_
  refine zeP rfl rfl ?_
  refine zeCV rfl rfl rfl rfl zS128 rfl (yc_readTerm (t := 7) (T := T) (e := e) (m := m) (p := p) (b := b) hG hp (by omega) hs) (by omega) ?_
  dsimp only [Option.toList, List.cons_append, List.nil_append]
  refine zeP rfl rfl ?_
  exact zeRe rfl rfl rfl (zretB rfl rfl (readTerm_YB hG hp hbp).2.2.2) (by rfl) (by rfl)
noncomputable def y_line8 (T : (Nat → Int32)) (e : Nat) (m : (Nat → Nat → Int32)) (p : Nat) : Int32 × (Nat → Nat → Int32) × Nat × Nat := ((y_readTrust T e m p).1, (y_readTrust T e m p).2.1, (y_readTrust T e m p).2.2.1, (y_readTrust T e m p).2.2.2)
theorem yp_line8 {σ : Nat → Nat × (Nat → Int32)} {yy : (Nat → Nat → Int64) × Bool × Nat × Nat} {m : Nat → Nat → Int32} {p b : Nat} {T : Nat → Int32} {e : Nat} {d : Nat} (hd : 4 ≤ d + 1) (hG : XR m T e) (hp : p ≤ e) (hbp : b ≤ p) (hs : ZS σ) : zEv σ (d + 1) 1002 7 [some (.ref 128), some (.int (Int32.ofNat 8))] [] (zS1, XP m p b, yy) (.inl (some (.int (y_line8 T e m p).1))) (zS1, XP ((y_line8 T e m p).2.1) ((y_line8 T e m p).2.2.1) ((y_line8 T e m p).2.2.2), yy) := by
  refine zeP rfl rfl ?_
  refine zeP rfl rfl ?_
  refine zeP rfl rfl ?_
  refine zeCV rfl rfl rfl rfl zS128 rfl (yc_readTrust  (T := T) (e := e) (m := m) (p := p) (b := b) hG hp) (by omega) ?_
  dsimp only [Option.toList, List.cons_append, List.nil_append]
  exact zeRe rfl rfl rfl (zretB rfl rfl (readTrust_YB hG hp).2.2.2) (by rfl) (by rfl)
noncomputable def y_line9 (T : (Nat → Int32)) (e : Nat) (m : (Nat → Nat → Int32)) (p : Nat) : Int32 × (Nat → Nat → Int32) × Nat × Nat := ((y_readWord T e m p).1, (y_readWord T e m p).2.1, (y_readWord T e m p).2.2.1, (y_readWord T e m p).2.2.2)
theorem yp_line9 {σ : Nat → Nat × (Nat → Int32)} {yy : (Nat → Nat → Int64) × Bool × Nat × Nat} {m : Nat → Nat → Int32} {p b : Nat} {T : Nat → Int32} {e : Nat} {d : Nat} (hd : 4 ≤ d + 1) (hG : XR m T e) (hp : p ≤ e) (hbp : b ≤ p) (hs : ZS σ) : zEv σ (d + 1) 1002 7 [some (.ref 128), some (.int (Int32.ofNat 9))] [] (zS1, XP m p b, yy) (.inl (some (.int (y_line9 T e m p).1))) (zS1, XP ((y_line9 T e m p).2.1) ((y_line9 T e m p).2.2.1) ((y_line9 T e m p).2.2.2), yy) := by
  refine zeP rfl rfl ?_
  refine zeP rfl rfl ?_
  refine zeP rfl rfl ?_
  refine zeCV rfl rfl rfl rfl zS128 rfl (yc_readWord  (T := T) (e := e) (m := m) (p := p) (b := b) hG hp) (by omega) ?_
  dsimp only [Option.toList, List.cons_append, List.nil_append]
  exact zeRe rfl rfl rfl (zretB rfl rfl (readWord_YB hG hp).2.2.2) (by rfl) (by rfl)
noncomputable def y_line10 (m : (Nat → Nat → Int32)) : Int32 × (Nat → Nat → Int32) := ((Int32.ofNat 1), (zm2 m ((43 + 3)) 8 ((Int32.ofNat 1))))
theorem yp_line10 {σ : Nat → Nat × (Nat → Int32)} {yy : (Nat → Nat → Int64) × Bool × Nat × Nat} {m : Nat → Nat → Int32} {p b : Nat} {T : Nat → Int32} {e : Nat} {d : Nat} (hd : 1 ≤ d + 1) (hG : XR m T e) (hp : p ≤ e) (hbp : b ≤ p) (hs : ZS σ) : zEv σ (d + 1) 1002 7 [some (.ref 128), some (.int (Int32.ofNat 10))] [] (zS1, XP m p b, yy) (.inl (some (.int (y_line10 m).1))) (zS1, XP ((y_line10 m).2) p b, yy) := by
  refine zeP rfl rfl ?_
  refine zeP rfl rfl ?_
  refine zeP rfl rfl ?_
  refine zeGR rfl rfl zS128 rfl rfl ?_
  refine zeGR rfl rfl (shM bb43) rfl rfl ?_
  refine zeKn (c := 8) rfl rfl rfl ?_
  refine zeKn (c := 1) rfl rfl rfl ?_
  refine zeXAS (a := (43 + 3)) (k := 8) (by first | decide | omega) rfl (shE bb43) rfl (by omega) ?_
  refine zeKn (c := 1) rfl rfl rfl ?_
  exact zeRe rfl rfl rfl rfl (by rfl) (by rfl)
noncomputable def y_line11 (m : (Nat → Nat → Int32)) : Int32 × (Nat → Nat → Int32) := ((Int32.ofNat 1), (zm2 m ((43 + 3)) 8 ((Int32.ofNat 0))))
theorem yp_line11 {σ : Nat → Nat × (Nat → Int32)} {yy : (Nat → Nat → Int64) × Bool × Nat × Nat} {m : Nat → Nat → Int32} {p b : Nat} {T : Nat → Int32} {e : Nat} {d : Nat} (hd : 1 ≤ d + 1) (hG : XR m T e) (hp : p ≤ e) (hbp : b ≤ p) (hs : ZS σ) : zEv σ (d + 1) 1002 7 [some (.ref 128), some (.int (Int32.ofNat 11))] [] (zS1, XP m p b, yy) (.inl (some (.int (y_line11 m).1))) (zS1, XP ((y_line11 m).2) p b, yy) := by
  refine zeP rfl rfl ?_
  refine zeP rfl rfl ?_
  refine zeP rfl rfl ?_
  refine zeGR rfl rfl zS128 rfl rfl ?_
  refine zeGR rfl rfl (shM bb43) rfl rfl ?_
  refine zeKn (c := 8) rfl rfl rfl ?_
  refine zeKn (c := 0) rfl rfl rfl ?_
  refine zeXAS (a := (43 + 3)) (k := 8) (by first | decide | omega) rfl (shE bb43) rfl (by omega) ?_
  refine zeKn (c := 1) rfl rfl rfl ?_
  exact zeRe rfl rfl rfl rfl (by rfl) (by rfl)
noncomputable def y_line12 (T : (Nat → Int32)) (e : Nat) (m : (Nat → Nat → Int32)) (p : Nat) : Int32 × (Nat → Nat → Int32) × Nat × Nat := ((y_readLock T e m p).1, (y_readLock T e m p).2.1, (y_readLock T e m p).2.2.1, (y_readLock T e m p).2.2.2)
theorem yp_line12 {σ : Nat → Nat × (Nat → Int32)} {yy : (Nat → Nat → Int64) × Bool × Nat × Nat} {m : Nat → Nat → Int32} {p b : Nat} {T : Nat → Int32} {e : Nat} {d : Nat} (hd : 4 ≤ d + 1) (hG : XR m T e) (hp : p ≤ e) (hbp : b ≤ p) (hs : ZS σ) : zEv σ (d + 1) 1002 7 [some (.ref 128), some (.int (Int32.ofNat 12))] [] (zS1, XP m p b, yy) (.inl (some (.int (y_line12 T e m p).1))) (zS1, XP ((y_line12 T e m p).2.1) ((y_line12 T e m p).2.2.1) ((y_line12 T e m p).2.2.2), yy) := by
  refine zeP rfl rfl ?_
  refine zeP rfl rfl ?_
  refine zeP rfl rfl ?_
  refine zeCV rfl rfl rfl rfl zS128 rfl (yc_readLock  (T := T) (e := e) (m := m) (p := p) (b := b) hG hp) (by omega) ?_
  dsimp only [Option.toList, List.cons_append, List.nil_append]
  exact zeRe rfl rfl rfl (zretB rfl rfl (readLock_YB hG hp).2.2.2) (by rfl) (by rfl)
noncomputable def y_lineN : Int32 := (Int32.ofNat 0)
theorem yp_lineN {σ : Nat → Nat × (Nat → Int32)} {yy : (Nat → Nat → Int64) × Bool × Nat × Nat} {m : Nat → Nat → Int32} {p b : Nat} {T : Nat → Int32} {e : Nat} {d : Nat} (hd : 1 ≤ d + 1) (hG : XR m T e) (hp : p ≤ e) (hbp : b ≤ p) (hs : ZS σ) : zEv σ (d + 1) 1002 7 [some (.ref 128), some (.int (-1))] [] (zS1, XP m p b, yy) (.inl (some (.int y_lineN))) (zS1, XP m p b, yy) := by
  refine zeP rfl rfl ?_
  refine zeP rfl rfl ?_
  refine zeKn (c := 0) rfl rfl rfl ?_
  exact zeRe rfl rfl rfl rfl (by rfl) (by rfl)
theorem prog_b {T : Nat → Int32} {e t : Nat} : ∀ (n k : Nat) (m : Nat → Nat → Int32) (p b : Nat), (yl_prog T e t n k m p b).1 = 0 ∨ (yl_prog T e t n k m p b).1 = 1 := by
  intro n
  induction n with
  | zero => intro k m p b; exact Or.inl rfl
  | succ n ih =>
    intro k m p b
    unfold yl_prog
    exact cnd4 (fun X : Int32 × (Nat → Nat → Int32) × Nat × Nat => X.1 = 0 ∨ X.1 = 1) (fun _ => cnd4 (fun X : Int32 × (Nat → Nat → Int32) × Nat × Nat => X.1 = 0 ∨ X.1 = 1) (fun _ => ih _ _ _ _) (fun _ => Or.inr rfl)) (fun _ => Or.inl rfl)
theorem readProgram_b {T : Nat → Int32} {e : Nat} {m : Nat → Nat → Int32} {p b : Nat} (_ : XR m T e) (_ : p ≤ e) (_ : b ≤ p) (_ : okm m 43 5 4) : (y_readProgram T e m p b).1 = 0 ∨ (y_readProgram T e m p b).1 = 1 := by
  unfold y_readProgram
  exact cnd4 (fun X : Int32 × (Nat → Nat → Int32) × Nat × Nat => X.1 = 0 ∨ X.1 = 1) (fun _ => prog_b _ _ _ _ _) (fun _ => Or.inl rfl)
/-- a line, by the number of its name -/
noncomputable def y_line (T : Nat → Int32) (e : Nat) (m : Nat → Nat → Int32) (p b K : Nat) : Int32 × (Nat → Nat → Int32) × Nat × Nat := match K with
  | 8 => y_readTrust T e m p
  | 9 => y_readWord T e m p
  | 10 => (Int32.ofNat 1, zm2 m (43 + 3) 8 (Int32.ofNat 1), p, b)
  | 11 => (Int32.ofNat 1, zm2 m (43 + 3) 8 (Int32.ofNat 0), p, b)
  | 12 => y_readLock T e m p
  | k => if k ≤ 7 then y_readTerm T e m p b k else y_readProgram T e m p b
noncomputable def y_readLine (T : Nat → Int32) (e : Nat) (m : Nat → Nat → Int32) (p : Nat) : Int32 × (Nat → Nat → Int32) × Nat × Nat := bif zc2 .eq (y_readName T e p 0).1 (-1) then (Int32.ofNat 0, m, (y_readName T e p 0).2.1, (y_readName T e p 0).2.2) else y_line T e m (y_readName T e p 0).2.1 (y_readName T e p 0).2.2 (y_readName T e p 0).1.toNatClampNeg
theorem yname_n {T : Nat → Int32} {p b s : Nat} : ∀ (n nm sm : Nat) (df : Int32) (k : Nat), yl_name T p b s n nm sm df k = -1 ∨ ∃ K, K ≤ nm + n ∧ yl_name T p b s n nm sm df k = Int32.ofNat K := by
  intro n
  induction n with
  | zero => intro nm sm df k; exact Or.inl rfl
  | succ n ih =>
    intro nm sm df k
    have up : ∀ nm' sm df k, nm' ≤ nm + 1 → yl_name T p b s n nm' sm df k = -1 ∨ ∃ K, K ≤ nm + (n + 1) ∧ yl_name T p b s n nm' sm df k = Int32.ofNat K := fun nm' sm df k h => by
      rcases ih nm' sm df k with h1 | ⟨K, h1, h2⟩
      · exact Or.inl h1
      · exact Or.inr ⟨K, by omega, h2⟩
    have hit : (Int32.ofNat nm : Int32) = -1 ∨ ∃ K, K ≤ nm + (n + 1) ∧ (Int32.ofNat nm : Int32) = Int32.ofNat K := Or.inr ⟨nm, by omega, rfl⟩
    unfold yl_name
    refine cnd4 (fun X : Int32 => X = -1 ∨ ∃ K, K ≤ nm + (n + 1) ∧ X = Int32.ofNat K) (fun _ => cnd4 (fun X : Int32 => X = -1 ∨ ∃ K, K ≤ nm + (n + 1) ∧ X = Int32.ofNat K) (fun _ => up _ _ _ _ (by omega)) (fun _ => cnd4 (fun X : Int32 => X = -1 ∨ ∃ K, K ≤ nm + (n + 1) ∧ X = Int32.ofNat K) (fun _ => up _ _ _ _ (by omega)) (fun _ => hit))) (fun _ => cnd4 (fun X : Int32 => X = -1 ∨ ∃ K, K ≤ nm + (n + 1) ∧ X = Int32.ofNat K) (fun _ => cnd4 (fun X : Int32 => X = -1 ∨ ∃ K, K ≤ nm + (n + 1) ∧ X = Int32.ofNat K) (fun _ => up _ _ _ _ (by omega)) (fun _ => cnd4 (fun X : Int32 => X = -1 ∨ ∃ K, K ≤ nm + (n + 1) ∧ X = Int32.ofNat K) (fun _ => up _ _ _ _ (by omega)) (fun _ => up _ _ _ _ (by omega)))) (fun _ => cnd4 (fun X : Int32 => X = -1 ∨ ∃ K, K ≤ nm + (n + 1) ∧ X = Int32.ofNat K) (fun _ => up _ _ _ _ (by omega)) (fun _ => cnd4 (fun X : Int32 => X = -1 ∨ ∃ K, K ≤ nm + (n + 1) ∧ X = Int32.ofNat K) (fun _ => up _ _ _ _ (by omega)) (fun _ => hit))))
theorem ynameA_n {T : Nat → Int32} {e b s : Nat} (hq : s < 37) : ∀ n p, (yl_nameA T e b s n p).1 = -1 ∨ ∃ K, K ≤ 101 ∧ (yl_nameA T e b s n p).1 = Int32.ofNat K := by
  have hl := zby_len s hq
  have hit : ∀ p, yl_name T p b s ((zby s).length + 1) 0 b (Int32.ofNat 0) 0 = -1 ∨ ∃ K, K ≤ 101 ∧ yl_name T p b s ((zby s).length + 1) 0 b (Int32.ofNat 0) 0 = Int32.ofNat K := fun p => by
    rcases yname_n (T := T) (p := p) (b := b) (s := s) ((zby s).length + 1) 0 b (Int32.ofNat 0) 0 with h | ⟨K, h1, h2⟩
    · exact Or.inl h
    · exact Or.inr ⟨K, by omega, h2⟩
  intro n
  induction n with
  | zero => intro p; exact hit p
  | succ n ih =>
    intro p
    unfold yl_nameA
    exact cnd4 (fun X : Int32 × Nat => X.1 = -1 ∨ ∃ K, K ≤ 101 ∧ X.1 = Int32.ofNat K) (fun _ => hit p) (fun _ => cnd4 (fun X : Int32 × Nat => X.1 = -1 ∨ ∃ K, K ≤ 101 ∧ X.1 = Int32.ofNat K) (fun _ => hit p) (fun _ => cnd4 (fun X : Int32 × Nat => X.1 = -1 ∨ ∃ K, K ≤ 101 ∧ X.1 = Int32.ofNat K) (fun _ => hit p) (fun _ => ih _)))
theorem yreadName_n {T : Nat → Int32} {e p s : Nat} (hq : s < 37) : (y_readName T e p s).1 = -1 ∨ ∃ K, K ≤ 101 ∧ (y_readName T e p s).1 = Int32.ofNat K := ynameA_n hq _ _
theorem tab12 {K : Nat} (h1 : 13 ≤ K) (h2 : K ≤ 101) : (Int32.ofNat K).toInt < -1 ∨ 12 < (Int32.ofNat K).toInt := by
  rw [zoN (by omega)]
  omega
theorem yp_lineK {σ : Nat → Nat × (Nat → Int32)} {yy : (Nat → Nat → Int64) × Bool × Nat × Nat} {m : Nat → Nat → Int32} {p b : Nat}  {T : Nat → Int32} {e : Nat} {d K : Nat} (hd : 5 ≤ d + 1) (hK : K ≤ 101) (hG : XR m T e) (hp : p ≤ e) (hbp : b ≤ p) (hc : okm m 43 5 4) (hs : ZS σ) : zEv σ (d + 1) 1002 7 [some (.ref 128), some (.int (Int32.ofNat K))] [] (zS1, XP m p b, yy) (.inl (some (.int (y_line T e m p b K).1))) (zS1, XP (y_line T e m p b K).2.1 (y_line T e m p b K).2.2.1 (y_line T e m p b K).2.2.2, yy) := by
  match K, hK with
  | 0, _ =>
    have h := yp_line0 (σ := σ) (yy := yy) (T := T) (e := e) (m := m) (p := p) (b := b) (d := d) (by omega) hG hp hbp hs
    have e0 : y_line T e m p b 0 = y_readTerm T e m p b 0 := by first | rfl | (unfold y_line; rfl) | (unfold y_line; split <;> first | omega | exact if_pos (by omega))
    dsimp only [y_line0] at h
    rw [e0]
    exact h
  | 1, _ =>
    have h := yp_line1 (σ := σ) (yy := yy) (T := T) (e := e) (m := m) (p := p) (b := b) (d := d) (by omega) hG hp hbp hs
    have e0 : y_line T e m p b 1 = y_readTerm T e m p b 1 := by first | rfl | (unfold y_line; rfl) | (unfold y_line; split <;> first | omega | exact if_pos (by omega))
    dsimp only [y_line1] at h
    rw [e0]
    exact h
  | 2, _ =>
    have h := yp_line2 (σ := σ) (yy := yy) (T := T) (e := e) (m := m) (p := p) (b := b) (d := d) (by omega) hG hp hbp hs
    have e0 : y_line T e m p b 2 = y_readTerm T e m p b 2 := by first | rfl | (unfold y_line; rfl) | (unfold y_line; split <;> first | omega | exact if_pos (by omega))
    dsimp only [y_line2] at h
    rw [e0]
    exact h
  | 3, _ =>
    have h := yp_line3 (σ := σ) (yy := yy) (T := T) (e := e) (m := m) (p := p) (b := b) (d := d) (by omega) hG hp hbp hs
    have e0 : y_line T e m p b 3 = y_readTerm T e m p b 3 := by first | rfl | (unfold y_line; rfl) | (unfold y_line; split <;> first | omega | exact if_pos (by omega))
    dsimp only [y_line3] at h
    rw [e0]
    exact h
  | 4, _ =>
    have h := yp_line4 (σ := σ) (yy := yy) (T := T) (e := e) (m := m) (p := p) (b := b) (d := d) (by omega) hG hp hbp hs
    have e0 : y_line T e m p b 4 = y_readTerm T e m p b 4 := by first | rfl | (unfold y_line; rfl) | (unfold y_line; split <;> first | omega | exact if_pos (by omega))
    dsimp only [y_line4] at h
    rw [e0]
    exact h
  | 5, _ =>
    have h := yp_line5 (σ := σ) (yy := yy) (T := T) (e := e) (m := m) (p := p) (b := b) (d := d) (by omega) hG hp hbp hs
    have e0 : y_line T e m p b 5 = y_readTerm T e m p b 5 := by first | rfl | (unfold y_line; rfl) | (unfold y_line; split <;> first | omega | exact if_pos (by omega))
    dsimp only [y_line5] at h
    rw [e0]
    exact h
  | 6, _ =>
    have h := yp_line6 (σ := σ) (yy := yy) (T := T) (e := e) (m := m) (p := p) (b := b) (d := d) (by omega) hG hp hbp hs
    have e0 : y_line T e m p b 6 = y_readTerm T e m p b 6 := by first | rfl | (unfold y_line; rfl) | (unfold y_line; split <;> first | omega | exact if_pos (by omega))
    dsimp only [y_line6] at h
    rw [e0]
    exact h
  | 7, _ =>
    have h := yp_line7 (σ := σ) (yy := yy) (T := T) (e := e) (m := m) (p := p) (b := b) (d := d) (by omega) hG hp hbp hs
    have e0 : y_line T e m p b 7 = y_readTerm T e m p b 7 := by first | rfl | (unfold y_line; rfl) | (unfold y_line; split <;> first | omega | exact if_pos (by omega))
    dsimp only [y_line7] at h
    rw [e0]
    exact h
  | 8, _ =>
    have h := yp_line8 (σ := σ) (yy := yy) (T := T) (e := e) (m := m) (p := p) (b := b) (d := d) (by omega) hG hp hbp hs
    have e0 : y_line T e m p b 8 = y_readTrust T e m p := rfl
    dsimp only [y_line8] at h
    rw [e0]
    exact h
  | 9, _ =>
    have h := yp_line9 (σ := σ) (yy := yy) (T := T) (e := e) (m := m) (p := p) (b := b) (d := d) (by omega) hG hp hbp hs
    have e0 : y_line T e m p b 9 = y_readWord T e m p := rfl
    dsimp only [y_line9] at h
    rw [e0]
    exact h
  | 10, _ =>
    have h := yp_line10 (σ := σ) (yy := yy) (T := T) (e := e) (m := m) (p := p) (b := b) (d := d) (by omega) hG hp hbp hs
    have e0 : y_line T e m p b 10 = (Int32.ofNat 1, zm2 m (43 + 3) 8 (Int32.ofNat 1), p, b) := rfl
    dsimp only [y_line10] at h
    rw [e0]
    exact h
  | 11, _ =>
    have h := yp_line11 (σ := σ) (yy := yy) (T := T) (e := e) (m := m) (p := p) (b := b) (d := d) (by omega) hG hp hbp hs
    have e0 : y_line T e m p b 11 = (Int32.ofNat 1, zm2 m (43 + 3) 8 (Int32.ofNat 0), p, b) := rfl
    dsimp only [y_line11] at h
    rw [e0]
    exact h
  | 12, _ =>
    have h := yp_line12 (σ := σ) (yy := yy) (T := T) (e := e) (m := m) (p := p) (b := b) (d := d) (by omega) hG hp hbp hs
    have e0 : y_line T e m p b 12 = y_readLock T e m p := rfl
    dsimp only [y_line12] at h
    rw [e0]
    exact h
  | k + 13, hK =>
    have e2 : y_line T e m p b (k + 13) = y_readProgram T e m p b := by
      unfold y_line
      split <;> first | omega | exact if_neg (by omega)
    rw [e2]
    refine zeP rfl rfl ?_
    refine zeSwD rfl (tab12 (by omega) hK) rfl ?_
    refine zeP rfl rfl ?_
    refine zeKn (c := 8) rfl rfl rfl ?_
    refine zeT2 rfl rfl (zcge (by omega) (by omega) (by omega)) ?_
    refine zeP rfl rfl ?_
    refine zeCV rfl rfl rfl rfl zS128 rfl (yc_readProgram (m := m) (p := p) (b := b) (T := T) (e := e) hG hp hc hs) (by omega) ?_
    dsimp only [Option.toList, List.cons_append, List.nil_append]
    exact zeRe rfl rfl rfl (zretB rfl rfl (readProgram_b hG hp hbp hc)) rfl rfl
theorem yc_readLine {σ : Nat → Nat × (Nat → Int32)} {yy : (Nat → Nat → Int64) × Bool × Nat × Nat} {m : Nat → Nat → Int32} {p b : Nat} {T : Nat → Int32} {e : Nat} (hG : XR m T e) (hp : p ≤ e) (hc : okm m 43 5 4) (hs : ZS σ) : zF σ 6 1002 [.ref 128] (zS1, XP m p b, yy) (.inl (some (.int (y_readLine T e m p).1))) (zS1, XP (y_readLine T e m p).2.1 (y_readLine T e m p).2.2.1 (y_readLine T e m p).2.2.2, yy) := by
  intro d hd
  obtain ⟨d, rfl⟩ : ∃ k, d = k + 1 := ⟨d - 1, by omega⟩
  have hn := yname_le (T := T) (s := 0) hG.2.2 hp
  show zEv σ (d + 1) 1002 0 [some (.ref 128), none] [] _ _ _
  refine zeP rfl rfl ?_
  refine zeS rfl rfl rfl ?_
  refine zeCV rfl rfl rfl rfl zS128 rfl (yc_readName (m := m) (p := p) (b := b) (T := T) (e := e) (s := 0) hG (by omega) hp) (by omega) ?_
  dsimp only [Option.toList, List.cons_append, List.nil_append]
  refine zeP rfl rfl ?_
  unfold y_readLine
  rcases yreadName_n (T := T) (e := e) (p := p) (s := 0) (by omega) with h | ⟨K, hK, h⟩
  · rw [h]
    exact yp_lineN (by omega) hG hn.1 hn.2 hs
  · have hne : zc2 .eq (Int32.ofNat K) (-1) = false := by
      apply decide_eq_false
      intro q
      have := congrArg Int32.toInt q
      rw [zoN (by omega)] at this
      exact absurd this (by show ¬ ((K : Int) = -1); omega)
    rw [h, hne, cond_false, nv_on (by omega)]
    exact yp_lineK (by omega) hK hG hn.1 hn.2 hc hs
theorem line_YC {T : Nat → Int32} {e : Nat} {m : Nat → Nat → Int32} {p b K : Nat} (hG : XR m T e) (hp : p ≤ e) (hb : b ≤ p) (hc : CG m 43) (hk : KX m 43 P0) : YC T e (y_line T e m p b K) := by
  have u : ∀ x, YC T e (Int32.ofNat 1, zm2 m (43 + 3) 8 x, p, b) := fun x => YC.mk (hG.put _ (by omega)) hp hb (Or.inr rfl) (hc.put _ (ncX (by omega))) (hk.put _ (ndX (by omega) (by omega)))
  unfold y_line
  split
  · exact readTrust_YC hG hp hc hk
  · exact readWord_YC hG hp hc hk
  · exact u _
  · exact u _
  · exact readLock_YC hG hp hc hk
  · split
    · exact readTerm_YC hG hp hb hc hk
    · exact readProgram_YC hG hp hb hc hk
theorem readLine_YC {T : Nat → Int32} {e : Nat} {m : Nat → Nat → Int32} {p : Nat} (hG : XR m T e) (hp : p ≤ e) (hc : CG m 43) (hk : KX m 43 P0) : YC T e (y_readLine T e m p) := by
  have hn := yname_le (T := T) (s := 0) hG.2.2 hp
  unfold y_readLine
  exact cnd4 (YC T e) (fun _ => YC.mk hG hn.1 hn.2 (Or.inl rfl) hc hk) (fun _ => line_YC hG hn.1 hn.2 hc hk)
noncomputable def yl_all (T : (Nat → Int32)) (e : Nat) : Nat → Nat → (Nat → Nat → Int32) → Nat → Nat → Int32 × (Nat → Nat → Int32) × Nat × Nat
  | 0, k, m, p, b => ((Int32.ofNat (lkB T e p)), m, (lkB T e p), (lkB T e p))
  | n + 1, k, m, p, b => (bif zc1 .ne (y_readLine T e m p).1 then (bif zc2 .lt (Int32.ofNat (lkB T e ((y_readLine T e m p).2.2.1))) (Int32.ofNat e) then (bif zc1 .ne (y_skipSign T e ((lkB T e ((y_readLine T e m p).2.2.1))) 59).1 then (yl_all T e n ((k + 1)) ((y_readLine T e m p).2.1) ((y_skipSign T e ((lkB T e ((y_readLine T e m p).2.2.1))) 59).2) ((lkB T e ((y_readLine T e m p).2.2.1)))) else ((Int32.ofNat (lkB T e ((y_readLine T e m p).2.2.1))), (y_readLine T e m p).2.1, (y_skipSign T e ((lkB T e ((y_readLine T e m p).2.2.1))) 59).2, (lkB T e ((y_readLine T e m p).2.2.1)))) else ((-1), (y_readLine T e m p).2.1, (lkB T e ((y_readLine T e m p).2.2.1)), (lkB T e ((y_readLine T e m p).2.2.1)))) else ((Int32.ofNat (y_readLine T e m p).2.2.2), (y_readLine T e m p).2.1, (y_readLine T e m p).2.2.1, (y_readLine T e m p).2.2.2))
theorem yw_all {σ : Nat → Nat × (Nat → Int32)} {yy : (Nat → Nat → Int64) × Bool × Nat × Nat} {T : Nat → Int32} {e : Nat} {d : Nat} (hd : 7 ≤ d + 1) (hs : ZS σ) : ∀ (n : Nat) (x : Option Value) (k : Nat) (m : (Nat → Nat → Int32)) (p : Nat) (b : Nat), k + n = 14 → (XR m T e) → (p ≤ e) → (CG m 43) → (KX m 43 P0) → zEv σ (d + 1) 1001 37 [some (.ref 128), x, some (.int (Int32.ofNat k))] [] (zS1, XP m p b, yy) (.inl (some (.int (yl_all T e n k m p b).1))) (zS1, XP ((yl_all T e n k m p b).2.1) ((yl_all T e n k m p b).2.2.1) ((yl_all T e n k m p b).2.2.2), yy) := by
  intro n
  induction n with
  | zero =>
    intro x k m p b hk hG hp hc hk0
    refine zeP rfl rfl ?_
    refine zeKn (c := 14) rfl rfl rfl ?_
    refine zeT2 rfl rfl (zcge (by omega) (by omega) (by omega)) ?_
    refine zeP rfl rfl ?_
    refine zeCV rfl rfl rfl rfl zS128 rfl (yc_look (m := m) (p := p) (b := b) (T := T) (e := e) hG hp) (by omega) ?_
    dsimp only [Option.toList, List.cons_append, List.nil_append]
    refine zeP rfl rfl ?_
    refine zeXb rfl rfl ?_
    exact zeRe rfl rfl rfl rfl (by rfl) (by rfl)
  | succ n ih =>
    intro x k m p b hk hG hp hc hk0
    refine zeP rfl rfl ?_
    refine zeKn (c := 14) rfl rfl rfl ?_
    refine zeF2 rfl rfl (zcge_f (by omega) (by omega) (by omega)) ?_
    refine zeP rfl rfl ?_
    refine zeCV rfl rfl rfl rfl zS128 rfl (yc_readLine (m := m) (p := p) (b := b) (T := T) (e := e) hG hp ⟨hc.c, hc.c4⟩ hs) (by omega) ?_
    dsimp only [Option.toList, List.cons_append, List.nil_append]
    refine zeB1 rfl rfl (fun h1 => ?_) (fun h1 => ?_)
    · refine zeP rfl rfl ?_
      refine zeCV rfl rfl rfl rfl zS128 rfl (yc_look (m := (y_readLine T e m p).2.1) (p := (y_readLine T e m p).2.2.1) (b := (y_readLine T e m p).2.2.2) (T := T) (e := e) (readLine_YC hG hp hc hk0).1.1 (readLine_YC hG hp hc hk0).1.2.1) (by omega) ?_
      dsimp only [Option.toList, List.cons_append, List.nil_append]
      refine zeP rfl rfl ?_
      refine zeXb rfl rfl ?_
      refine zeP rfl rfl ?_
      refine zeXe (readLine_YC hG hp hc hk0).1.1.2.1 rfl rfl ?_
      refine zeB2 rfl rfl (fun h2 => ?_) (fun h2 => ?_)
      · refine zeP rfl rfl ?_
        refine zeKn (c := 59) rfl rfl rfl ?_
        refine zeCV rfl rfl rfl rfl zS128 rfl (yc_skipSign (c := 59) (T := T) (e := e) (m := (y_readLine T e m p).2.1) (p := (lkB T e ((y_readLine T e m p).2.2.1))) (b := (lkB T e ((y_readLine T e m p).2.2.1))) (readLine_YC hG hp hc hk0).1.1 (by have := (lkB_le (T := T) hG.2.2 (readLine_YC hG hp hc hk0).1.2.1).2; have := hG.2.2; omega)) (by omega) ?_
        dsimp only [Option.toList, List.cons_append, List.nil_append]
        refine zeB1 rfl rfl (fun h3 => ?_) (fun h3 => ?_)
        · refine zeInc rfl rfl ?_
          refine zeP rfl rfl ?_
          simp only [yl_all, h1, h2, h3, cond_true, cond_false]
          exact ih (x) ((k + 1)) ((y_readLine T e m p).2.1) ((y_skipSign T e ((lkB T e ((y_readLine T e m p).2.2.1))) 59).2) ((lkB T e ((y_readLine T e m p).2.2.1))) (by omega) (readLine_YC hG hp hc hk0).1.1 (yskip_le hG.2.2 (lkB_le (T := T) hG.2.2 (readLine_YC hG hp hc hk0).1.2.1).2).2 (readLine_YC hG hp hc hk0).2.1 (readLine_YC hG hp hc hk0).2.2
        · refine zeP rfl rfl ?_
          refine zeXb rfl rfl ?_
          exact zeRe rfl rfl rfl rfl (by simp only [yl_all, h1, h2, h3, cond_true, cond_false] <;> rfl) (by simp only [yl_all, h1, h2, h3, cond_true, cond_false] <;> rfl)
      · refine zeK (v := -1) rfl rfl rfl ?_
        exact zeRe rfl rfl rfl rfl (by simp only [yl_all, h1, h2, cond_true, cond_false] <;> rfl) (by simp only [yl_all, h1, h2, cond_true, cond_false] <;> rfl)
    · refine zeP rfl rfl ?_
      refine zeXb rfl rfl ?_
      exact zeRe rfl rfl rfl rfl (by simp only [yl_all, h1, cond_true, cond_false] <;> rfl) (by simp only [yl_all, h1, cond_true, cond_false] <;> rfl)
noncomputable def y_readAll18 (T : (Nat → Int32)) (e : Nat) (m : (Nat → Nat → Int32)) (p : Nat) : Int32 × (Nat → Nat → Int32) × Nat × Nat := (bif zc2 .lt (Int32.ofNat (lkB T e p)) (Int32.ofNat e) then (yl_all T e 14 0 m ((lkB T e p)) ((lkB T e p))) else ((-1), m, (lkB T e p), (lkB T e p)))
theorem yp_readAll18 {σ : Nat → Nat × (Nat → Int32)} {yy : (Nat → Nat → Int64) × Bool × Nat × Nat} {m : Nat → Nat → Int32} {p b : Nat} {T : Nat → Int32} {e : Nat} {x : Option Value} {d : Nat} (hd : 7 ≤ d + 1) (hs : ZS σ) (hG : XR m T e) (hp : p ≤ e) (hc : CG m 43) (hk0 : KX m 43 P0) : zEv σ (d + 1) 1001 18 [some (.ref 128), x, none] [] (zS1, XP m p b, yy) (.inl (some (.int (y_readAll18 T e m p).1))) (zS1, XP ((y_readAll18 T e m p).2.1) ((y_readAll18 T e m p).2.2.1) ((y_readAll18 T e m p).2.2.2), yy) := by
  refine zeP rfl rfl ?_
  refine zeCV rfl rfl rfl rfl zS128 rfl (yc_look (m := m) (p := p) (b := b) (T := T) (e := e) hG hp) (by omega) ?_
  dsimp only [Option.toList, List.cons_append, List.nil_append]
  refine zeP rfl rfl ?_
  refine zeXb rfl rfl ?_
  refine zeP rfl rfl ?_
  refine zeXe hG.2.1 rfl rfl ?_
  refine zeB2 rfl rfl (fun h1 => ?_) (fun h1 => ?_)
  · refine zeKn (c := 0) rfl rfl rfl ?_
    refine zeP rfl rfl ?_
    simp only [y_readAll18, h1, cond_true, cond_false]
    exact yw_all  (T := T) (e := e) (by omega) hs 14 (x) (0) m ((lkB T e p)) ((lkB T e p)) (by omega) hG (lkB_le hG.2.2 hp).2 hc hk0
  · refine zeK (v := -1) rfl rfl rfl ?_
    exact zeRe rfl rfl rfl rfl (by simp only [y_readAll18, h1, cond_true, cond_false] <;> rfl) (by simp only [y_readAll18, h1, cond_true, cond_false] <;> rfl)
end
section
/-! rules for ElidedLocks' own methods: what is thrown, what is checked -/
theorem zS00 : zS1[0]? = some (8, 0, [2, 44, 86, 0, 128, 0, 0, 129, 130, 132]) := rfl
theorem zS129 : zS1[129]? = some (7, 0, [131, 0]) := rfl
theorem zS130 : zS1[130]? = some (11, 400, []) := rfl
noncomputable def yt (yy : (Nat → Nat → Int64) × Bool × Nat × Nat) : (Nat → Nat → Int64) × Bool × Nat × Nat := (yy.1, false, yy.2.2.1 + 1, yy.2.2.2 + 6)
/-- an answer, or what is thrown -/
noncomputable def xo : Int32 ⊕ Nat → zO
  | .inl v => .inl (some (.int v))
  | .inr e => .inr e
noncomputable def xy (yy : (Nat → Nat → Int64) × Bool × Nat × Nat) : Int32 ⊕ Nat → (Nat → Nat → Int64) × Bool × Nat × Nat
  | .inl _ => yy
  | .inr _ => yt yy
section ZTH
variable {σ : Nat → Nat × (Nat → Int32)} {d j pc : Nat} {lv : zLv} {st : List Value} {M : zMem} {o : zO} {M' : zMem}
theorem zeThr {i : Instr} {len e0 : Nat} (hf : zfe j pc = some (i, len)) (hp : zP (j / 200) i pc lv st = none) (hs : zS σ (j / 200) (zini j) i pc st M = none) (hr : zret j i st = none) (ht : zthr j pc = some e0) (hc : (Nat.ble (zsum st) 8 && znoH j) = true) (ho : o = .inr e0) (hM : M' = zthM M) : zEv σ d j pc lv st M o M' := by
  subst ho hM
  exact zeT hf hp hs hr ht hc
theorem zeThX {i : Instr} {len j' e0 h : Nat} {as rest : List Value} {M1 : zMem} (hf : zfe j pc = some (i, len)) (hp : zP (j / 200) i pc lv st = none) (hs : zS σ (j / 200) (zini j) i pc st M = none) (hr : zret j i st = none) (ht : zthr j pc = none) (hc : zcall (j / 200) i st M = some (j', as, rest)) (h1 : zF σ h j' as M (.inr e0) M1) (hh : h ≤ d) (hh2 : zhnd j pc e0 = none) (hn : znoH j = true) (ho : o = .inr e0) (hM : M' = M1) : zEv σ (d + 1) j pc lv st M o M' := by
  subst ho hM
  exact zeX hf hp hs hr ht hc (h1 d hh) hh2 hn
end ZTH
noncomputable def sOK (m : Nat → Nat → Int32) (x : Int32) : Bool := !zc1 .lt x && zc2 .lt x (m 1 5)
noncomputable def wOK (x : Int32) : Bool := !zc1 .lt x && zc2 .lt x (Int32.ofNat 32)
noncomputable def tOK (x : Int32) : Bool := !zc1 .lt x && zc2 .le x (Int32.ofNat 1)
noncomputable def kOK (x : Int32) : Bool := !zc2 .lt x (Int32.ofNat 1) && zc2 .le x (Int32.ofNat 100)
theorem nat_ge {x : Int32} (h : 0 ≤ x.toInt) : x = Int32.ofNat x.toNatClampNeg ∧ (x.toNatClampNeg : Int) = x.toInt := by
  have h3 : x.toNatClampNeg = x.toInt.toNat := rfl
  have h4 := x.toInt_lt
  refine ⟨?_, by omega⟩
  apply Int32.toInt_inj.mp
  rw [zoN (by omega), h3]
  omega
theorem xk_1638 {m : Nat → Nat → Int32} {x : Int32} (hC : CG m 1) (h : sOK m x = true) : x = Int32.ofNat x.toNatClampNeg ∧ x.toNatClampNeg < mv m 1 5 := by
  unfold sOK at h
  rw [Bool.and_eq_true, Bool.not_eq_true'] at h
  have a := of_decide_eq_false h.1
  have c := of_decide_eq_true h.2
  have h4 := hC.c4
  rw [Int32.lt_iff_toInt_lt, Int32.toInt_zero] at a
  rw [hC.c, Int32.lt_iff_toInt_lt, zoN (by omega)] at c
  obtain ⟨g1, g2⟩ := nat_ge (x := x) (by omega)
  exact ⟨g1, by omega⟩
theorem xk_1639 {x : Int32} (h : wOK x = true) : x = Int32.ofNat x.toNatClampNeg ∧ x.toNatClampNeg < 32 := by
  unfold wOK at h
  rw [Bool.and_eq_true, Bool.not_eq_true'] at h
  have a := of_decide_eq_false h.1
  have c := of_decide_eq_true h.2
  rw [Int32.lt_iff_toInt_lt, Int32.toInt_zero] at a
  rw [Int32.lt_iff_toInt_lt, zoN (by omega)] at c
  obtain ⟨g1, g2⟩ := nat_ge (x := x) (by omega)
  exact ⟨g1, by omega⟩
theorem xk_1640 {x : Int32} (h : tOK x = true) : x = Int32.ofNat x.toNatClampNeg ∧ x.toNatClampNeg ≤ 1 := by
  unfold tOK at h
  rw [Bool.and_eq_true, Bool.not_eq_true'] at h
  have a := of_decide_eq_false h.1
  have c := of_decide_eq_true h.2
  rw [Int32.lt_iff_toInt_lt, Int32.toInt_zero] at a
  rw [Int32.le_iff_toInt_le, zoN (by omega)] at c
  obtain ⟨g1, g2⟩ := nat_ge (x := x) (by omega)
  exact ⟨g1, by omega⟩
theorem xk_1641 {x : Int32} (h : kOK x = true) : x = Int32.ofNat x.toNatClampNeg ∧ x.toNatClampNeg ≤ 100 ∧ 1 ≤ x.toNatClampNeg := by
  unfold kOK at h
  rw [Bool.and_eq_true, Bool.not_eq_true'] at h
  have a := of_decide_eq_false h.1
  have c := of_decide_eq_true h.2
  rw [Int32.lt_iff_toInt_lt, zoN (by omega)] at a
  rw [Int32.le_iff_toInt_le, zoN (by omega)] at c
  obtain ⟨g1, g2⟩ := nat_ge (x := x) (by omega)
  exact ⟨g1, by omega, by omega⟩
section ZCK
variable {σ : Nat → Nat × (Nat → Int32)} {yy : (Nat → Nat → Int64) × Bool × Nat × Nat} {m : Nat → Nat → Int32} {x : Int32}
theorem xn_1638 (h : sOK m x = false) : zF σ 1 1638 [.ref 0, .int x] (zS1, m, yy) (.inr 0) (zS1, m, yt yy) := by
  intro d hd
  obtain ⟨d, rfl⟩ : ∃ k, d = k + 1 := ⟨d - 1, by omega⟩
  show zEv σ (d + 1) 1638 0 [some (.ref 0), some (.int x)] [] _ _ _
  refine zeP rfl rfl ?_
  refine zeB1 rfl rfl (fun h1 => ?_) (fun h1 => ?_)
  · exact zeThr rfl rfl rfl rfl rfl rfl rfl rfl
  · refine zeP rfl rfl ?_
    refine zeP rfl rfl ?_
    refine zeGR rfl rfl zS00 rfl rfl ?_
    refine zeGI rfl rfl (shM bb1) rfl rfl ?_
    refine zeF2 rfl rfl ?_ ?_
    · unfold sOK at h
      rw [h1, Bool.not_false, Bool.true_and] at h
      exact h
    · exact zeThr rfl rfl rfl rfl rfl rfl rfl rfl
theorem xo_1638 (h : sOK m x = true) (hC : CG m 1) : zF σ 2 1638 [.ref 0, .int x] (zS1, m, yy) (.inl (some (.ref (1 + 10 + 7 * x.toNatClampNeg)))) (zS1, m, yy) := by
  obtain ⟨g1, g2⟩ := xk_1638 hC h
  have h4 := hC.c4
  unfold sOK at h
  rw [Bool.and_eq_true, Bool.not_eq_true'] at h
  intro d hd
  obtain ⟨d, rfl⟩ : ∃ k, d = k + 1 := ⟨d - 1, by omega⟩
  show zEv σ (d + 1) 1638 0 [some (.ref 0), some (.int x)] [] _ _ _
  refine zeP rfl rfl ?_
  refine zeF1 rfl rfl h.1 ?_
  refine zeP rfl rfl ?_
  refine zeP rfl rfl ?_
  refine zeGR rfl rfl zS00 rfl rfl ?_
  refine zeGI rfl rfl (shM bb1) rfl rfl ?_
  refine zeT2 rfl rfl h.2 ?_
  refine zeP rfl rfl ?_
  refine zeGR rfl rfl zS00 rfl rfl ?_
  refine zeKn (c := x.toNatClampNeg) rfl rfl g1 ?_
  refine zeCV rfl rfl rfl rfl (shM bb1) rfl (xc_strandAt (m := m) (b := 1) (t := x.toNatClampNeg) bb1 (by omega)) (by omega) ?_
  dsimp only [Option.toList, List.cons_append, List.nil_append]
  exact zeRe rfl rfl rfl rfl rfl rfl
theorem xn_1639 (h : wOK x = false) : zF σ 1 1639 [.int x] (zS1, m, yy) (.inr 0) (zS1, m, yt yy) := by
  intro d hd
  obtain ⟨d, rfl⟩ : ∃ k, d = k + 1 := ⟨d - 1, by omega⟩
  show zEv σ (d + 1) 1639 0 [some (.int x)] [] _ _ _
  refine zeP rfl rfl ?_
  refine zeB1 rfl rfl (fun h1 => ?_) (fun h1 => ?_)
  · exact zeThr rfl rfl rfl rfl rfl rfl rfl rfl
  · refine zeP rfl rfl ?_
    refine zeKn (c := 32) rfl rfl rfl ?_
    refine zeF2 rfl rfl ?_ ?_
    · unfold wOK at h
      rw [h1, Bool.not_false, Bool.true_and] at h
      exact h
    · exact zeThr rfl rfl rfl rfl rfl rfl rfl rfl
theorem xo_1639 (h : wOK x = true) : zF σ 1 1639 [.int x] (zS1, m, yy) (.inl (some (.int (Int32.ofNat x.toNatClampNeg)))) (zS1, m, yy) := by
  have g := (xk_1639 h).1
  unfold wOK at h
  rw [Bool.and_eq_true, Bool.not_eq_true'] at h
  intro d hd
  obtain ⟨d, rfl⟩ : ∃ k, d = k + 1 := ⟨d - 1, by omega⟩
  show zEv σ (d + 1) 1639 0 [some (.int x)] [] _ _ _
  refine zeP rfl rfl ?_
  refine zeF1 rfl rfl h.1 ?_
  refine zeP rfl rfl ?_
  refine zeKn (c := 32) rfl rfl rfl ?_
  refine zeT2 rfl rfl h.2 ?_
  refine zeKn (c := x.toNatClampNeg) rfl rfl g ?_
  exact zeRe rfl rfl rfl rfl rfl rfl
theorem xn_1640 (h : tOK x = false) : zF σ 1 1640 [.int x] (zS1, m, yy) (.inr 1) (zS1, m, yt yy) := by
  intro d hd
  obtain ⟨d, rfl⟩ : ∃ k, d = k + 1 := ⟨d - 1, by omega⟩
  show zEv σ (d + 1) 1640 0 [some (.int x)] [] _ _ _
  refine zeP rfl rfl ?_
  refine zeB1 rfl rfl (fun h1 => ?_) (fun h1 => ?_)
  · exact zeThr rfl rfl rfl rfl rfl rfl rfl rfl
  · refine zeP rfl rfl ?_
    refine zeKn (c := 1) rfl rfl rfl ?_
    refine zeF2 rfl rfl ?_ ?_
    · unfold tOK at h
      rw [h1, Bool.not_false, Bool.true_and] at h
      exact h
    · exact zeThr rfl rfl rfl rfl rfl rfl rfl rfl
theorem xo_1640 (h : tOK x = true) : zF σ 1 1640 [.int x] (zS1, m, yy) (.inl (some (.int (Int32.ofNat x.toNatClampNeg)))) (zS1, m, yy) := by
  have g := (xk_1640 h).1
  unfold tOK at h
  rw [Bool.and_eq_true, Bool.not_eq_true'] at h
  intro d hd
  obtain ⟨d, rfl⟩ : ∃ k, d = k + 1 := ⟨d - 1, by omega⟩
  show zEv σ (d + 1) 1640 0 [some (.int x)] [] _ _ _
  refine zeP rfl rfl ?_
  refine zeF1 rfl rfl h.1 ?_
  refine zeP rfl rfl ?_
  refine zeKn (c := 1) rfl rfl rfl ?_
  refine zeT2 rfl rfl h.2 ?_
  refine zeKn (c := x.toNatClampNeg) rfl rfl g ?_
  exact zeRe rfl rfl rfl rfl rfl rfl
theorem xn_1641 (h : kOK x = false) : zF σ 1 1641 [.int x] (zS1, m, yy) (.inr 2) (zS1, m, yt yy) := by
  intro d hd
  obtain ⟨d, rfl⟩ : ∃ k, d = k + 1 := ⟨d - 1, by omega⟩
  show zEv σ (d + 1) 1641 0 [some (.int x)] [] _ _ _
  refine zeP rfl rfl ?_
  refine zeKn (c := 1) rfl rfl rfl ?_
  refine zeB2 rfl rfl (fun h1 => ?_) (fun h1 => ?_)
  · exact zeThr rfl rfl rfl rfl rfl rfl rfl rfl
  · refine zeP rfl rfl ?_
    refine zeKn (c := 100) rfl rfl rfl ?_
    refine zeF2 rfl rfl ?_ ?_
    · unfold kOK at h
      rw [h1, Bool.not_false, Bool.true_and] at h
      exact h
    · exact zeThr rfl rfl rfl rfl rfl rfl rfl rfl
theorem xo_1641 (h : kOK x = true) : zF σ 1 1641 [.int x] (zS1, m, yy) (.inl (some (.int (Int32.ofNat x.toNatClampNeg)))) (zS1, m, yy) := by
  have g := (xk_1641 h).1
  unfold kOK at h
  rw [Bool.and_eq_true, Bool.not_eq_true'] at h
  intro d hd
  obtain ⟨d, rfl⟩ : ∃ k, d = k + 1 := ⟨d - 1, by omega⟩
  show zEv σ (d + 1) 1641 0 [some (.int x)] [] _ _ _
  refine zeP rfl rfl ?_
  refine zeKn (c := 1) rfl rfl rfl ?_
  refine zeF2 rfl rfl h.1 ?_
  refine zeP rfl rfl ?_
  refine zeKn (c := 100) rfl rfl rfl ?_
  refine zeT2 rfl rfl h.2 ?_
  refine zeKn (c := x.toNatClampNeg) rfl rfl g ?_
  exact zeRe rfl rfl rfl rfl rfl rfl
end ZCK
end
section
theorem ige_of {x : Int32} {n : Nat} (hn : n < 2147483648) (h1 : zc1 .lt x = false) (h2 : zc2 .ge x (Int32.ofNat n) = false) : x = Int32.ofNat x.toNatClampNeg ∧ x.toNatClampNeg < n := by
  have a := of_decide_eq_false h1
  have c := of_decide_eq_false h2
  rw [Int32.lt_iff_toInt_lt, Int32.toInt_zero] at a
  rw [Int32.le_iff_toInt_le, zoN hn] at c
  obtain ⟨g1, g2⟩ := nat_ge (x := x) (by omega)
  exact ⟨g1, by omega⟩
theorem zsw5 {x : Int32} (h0 : ¬ x = Int32.ofNat 0) (h1 : ¬ x = Int32.ofNat 1) (h2 : ¬ x = Int32.ofNat 2) (h3 : ¬ x = Int32.ofNat 3) (h4 : ¬ x = Int32.ofNat 4) (h5 : ¬ x = Int32.ofNat 5) : x.toInt < 0 ∨ 5 < x.toInt := by
  have key : ∀ K : Nat, K < 10 → x.toInt = K → x = Int32.ofNat K := by
    intro K hK e
    apply Int32.toInt_inj.mp
    rw [e, zoN (by omega)]
  apply Classical.byContradiction
  intro hn
  have hr : 0 ≤ x.toInt ∧ x.toInt ≤ 5 := by omega
  obtain ⟨K, hK⟩ := Int.eq_ofNat_of_zero_le hr.1
  have hK9 : K < 6 := by omega
  have e := key K (by omega) hK
  match K, hK9, e with
  | 0, _, e => exact h0 e
  | 1, _, e => exact h1 e
  | 2, _, e => exact h2 e
  | 3, _, e => exact h3 e
  | 4, _, e => exact h4 e
  | 5, _, e => exact h5 e
noncomputable def e_fault (m : Nat → Nat → Int32) : Int32 := (m 0 6)
theorem ec_fault {σ : Nat → Nat × (Nat → Int32)} {yy : (Nat → Nat → Int64) × Bool × Nat × Nat} {m : Nat → Nat → Int32} : zF σ 1 1605 [.ref 0] (zS1, m, yy) (.inl (some (.int (e_fault m)))) (zS1, m, yy) := by
  intro d hd
  obtain ⟨d, rfl⟩ : ∃ k, d = k + 1 := ⟨d - 1, by omega⟩
  show zEv σ (d + 1) 1605 0 [some (.ref 0)] [] _ _ _
  refine zeP rfl rfl ?_
  refine zeGI rfl rfl zS00 rfl rfl ?_
  exact zeRe rfl rfl rfl rfl (by rfl) (by rfl)
noncomputable def e_thread (m : Nat → Nat → Int32) (t : Int32) (x : Int32) : (Int32 ⊕ Nat) := (bif sOK m t then (bif decide (x = Int32.ofNat 0) then (.inl ((m ((1 + 10 + 7 * t.toNatClampNeg)) 3))) else (bif decide (x = Int32.ofNat 1) then (.inl ((m ((1 + 10 + 7 * t.toNatClampNeg)) 4))) else (bif decide (x = Int32.ofNat 2) then (bif zc1 .eq (m ((1 + 14 + 7 * t.toNatClampNeg)) 0) then (.inl ((Int32.ofNat 0))) else (.inl ((Int32.ofNat 1)))) else (bif decide (x = Int32.ofNat 3) then (bif zc1 .eq (x_sDone m 1 (t.toNatClampNeg)) then (.inl ((Int32.ofNat 0))) else (.inl ((Int32.ofNat 1)))) else (bif decide (x = Int32.ofNat 4) then (.inl ((m ((1 + 10 + 7 * t.toNatClampNeg)) 5))) else (bif decide (x = Int32.ofNat 5) then (.inl ((m ((1 + 10 + 7 * t.toNatClampNeg)) 6))) else (bif decide (x = Int32.ofNat 6) then (.inl ((x_allFalls m 1 (t.toNatClampNeg)))) else (bif decide (x = Int32.ofNat 7) then (.inl ((m ((1 + 14 + 7 * t.toNatClampNeg)) 5))) else (bif decide (x = Int32.ofNat 8) then (.inl ((m ((1 + 10 + 7 * t.toNatClampNeg)) 2))) else (bif decide (x = Int32.ofNat 9) then (.inl ((m ((1 + 10 + 7 * t.toNatClampNeg)) 7))) else (.inr 1))))))))))) else (.inr 0))
theorem ec_thread {σ : Nat → Nat × (Nat → Int32)} {yy : (Nat → Nat → Int64) × Bool × Nat × Nat} {m : Nat → Nat → Int32} {t : Int32} {x : Int32} (hC : CG m 1) : zF σ 3 1606 [.ref 0, .int t, .int x] (zS1, m, yy) (xo (e_thread m t x)) (zS1, m, (xy yy (e_thread m t x))) := by
  intro d hd
  obtain ⟨d, rfl⟩ : ∃ k, d = k + 1 := ⟨d - 1, by omega⟩
  show zEv σ (d + 1) 1606 0 [some (.ref 0), some (.int t), some (.int x), none] [] _ _ _
  refine zeP rfl rfl ?_
  refine zeP rfl rfl ?_
  cases h1 : sOK m t with
  | false =>
    exact zeThX rfl rfl rfl rfl rfl rfl (xn_1638 (m := m) (x := t) h1) (by omega) rfl rfl (by simp only [e_thread, h1, cond_true, cond_false] <;> rfl) (by simp only [e_thread, h1, cond_true, cond_false] <;> rfl)
  | true =>
    have c1 := xk_1638 (x := t) hC h1
    refine zeCV rfl rfl rfl rfl zS00 rfl (xo_1638 (m := m) (x := t) h1 hC) (by omega) ?_
    dsimp only [Option.toList, List.cons_append, List.nil_append]
    refine zeP rfl rfl ?_
    refine zeP rfl rfl ?_
    have t4 : t.toNatClampNeg < 4 := by have := hC.c4; omega
    cases h2 : decide (x = Int32.ofNat 0) with
    | true =>
      refine zeSw (K := 0) rfl (of_decide_eq_true h2) rfl ?_
      refine zeP rfl rfl ?_
      refine zeGI rfl rfl (shS bb1 (by omega)) rfl rfl ?_
      exact zeRe rfl rfl rfl rfl (by simp only [e_thread, h1, h2, cond_true, cond_false] <;> rfl) (by simp only [e_thread, h1, h2, cond_true, cond_false] <;> rfl)
    | false =>
      cases h3 : decide (x = Int32.ofNat 1) with
      | true =>
        refine zeSw (K := 1) rfl (of_decide_eq_true h3) rfl ?_
        refine zeP rfl rfl ?_
        refine zeGI rfl rfl (shS bb1 (by omega)) rfl rfl ?_
        exact zeRe rfl rfl rfl rfl (by simp only [e_thread, h1, h2, h3, cond_true, cond_false] <;> rfl) (by simp only [e_thread, h1, h2, h3, cond_true, cond_false] <;> rfl)
      | false =>
        cases h4 : decide (x = Int32.ofNat 2) with
        | true =>
          refine zeSw (K := 2) rfl (of_decide_eq_true h4) rfl ?_
          refine zeP rfl rfl ?_
          refine zeGR rfl rfl (shS bb1 (by omega)) rfl rfl ?_
          refine zeGI rfl rfl (shG bb1 (by omega)) rfl rfl ?_
          refine zeB1 rfl rfl (fun h5 => ?_) (fun h5 => ?_)
          · refine zeKn (c := 0) rfl rfl rfl ?_
            exact zeRe rfl rfl rfl rfl (by simp only [e_thread, h1, h2, h3, h4, h5, cond_true, cond_false] <;> rfl) (by simp only [e_thread, h1, h2, h3, h4, h5, cond_true, cond_false] <;> rfl)
          · refine zeKn (c := 1) rfl rfl rfl ?_
            refine zeP rfl rfl ?_
            exact zeRe rfl rfl rfl rfl (by simp only [e_thread, h1, h2, h3, h4, h5, cond_true, cond_false] <;> rfl) (by simp only [e_thread, h1, h2, h3, h4, h5, cond_true, cond_false] <;> rfl)
        | false =>
          cases h6 : decide (x = Int32.ofNat 3) with
          | true =>
            refine zeSw (K := 3) rfl (of_decide_eq_true h6) rfl ?_
            refine zeP rfl rfl ?_
            refine zeCV rfl rfl rfl rfl (shS bb1 (by omega)) rfl (xc_sDone (m := m) (b := 1) (t := t.toNatClampNeg) bb1 t4) (by omega) ?_
            dsimp only [Option.toList, List.cons_append, List.nil_append]
            refine zeB1 rfl rfl (fun h7 => ?_) (fun h7 => ?_)
            · refine zeKn (c := 0) rfl rfl rfl ?_
              exact zeRe rfl rfl rfl rfl (by simp only [e_thread, h1, h2, h3, h4, h6, h7, cond_true, cond_false] <;> rfl) (by simp only [e_thread, h1, h2, h3, h4, h6, h7, cond_true, cond_false] <;> rfl)
            · refine zeKn (c := 1) rfl rfl rfl ?_
              refine zeP rfl rfl ?_
              exact zeRe rfl rfl rfl rfl (by simp only [e_thread, h1, h2, h3, h4, h6, h7, cond_true, cond_false] <;> rfl) (by simp only [e_thread, h1, h2, h3, h4, h6, h7, cond_true, cond_false] <;> rfl)
          | false =>
            cases h8 : decide (x = Int32.ofNat 4) with
            | true =>
              refine zeSw (K := 4) rfl (of_decide_eq_true h8) rfl ?_
              refine zeP rfl rfl ?_
              refine zeGI rfl rfl (shS bb1 (by omega)) rfl rfl ?_
              exact zeRe rfl rfl rfl rfl (by simp only [e_thread, h1, h2, h3, h4, h6, h8, cond_true, cond_false] <;> rfl) (by simp only [e_thread, h1, h2, h3, h4, h6, h8, cond_true, cond_false] <;> rfl)
            | false =>
              cases h9 : decide (x = Int32.ofNat 5) with
              | true =>
                refine zeSw (K := 5) rfl (of_decide_eq_true h9) rfl ?_
                refine zeP rfl rfl ?_
                refine zeGI rfl rfl (shS bb1 (by omega)) rfl rfl ?_
                exact zeRe rfl rfl rfl rfl (by simp only [e_thread, h1, h2, h3, h4, h6, h8, h9, cond_true, cond_false] <;> rfl) (by simp only [e_thread, h1, h2, h3, h4, h6, h8, h9, cond_true, cond_false] <;> rfl)
              | false =>
                cases h10 : decide (x = Int32.ofNat 6) with
                | true =>
                  refine zeSw (K := 6) rfl (of_decide_eq_true h10) rfl ?_
                  refine zeP rfl rfl ?_
                  refine zeCV rfl rfl rfl rfl (shS bb1 (by omega)) rfl (xc_allFalls (m := m) (b := 1) (t := t.toNatClampNeg) bb1 t4) (by omega) ?_
                  dsimp only [Option.toList, List.cons_append, List.nil_append]
                  exact zeRe rfl rfl rfl rfl (by simp only [e_thread, h1, h2, h3, h4, h6, h8, h9, h10, cond_true, cond_false] <;> rfl) (by simp only [e_thread, h1, h2, h3, h4, h6, h8, h9, h10, cond_true, cond_false] <;> rfl)
                | false =>
                  cases h11 : decide (x = Int32.ofNat 7) with
                  | true =>
                    refine zeSw (K := 7) rfl (of_decide_eq_true h11) rfl ?_
                    refine zeP rfl rfl ?_
                    refine zeGR rfl rfl (shS bb1 (by omega)) rfl rfl ?_
                    refine zeGI rfl rfl (shG bb1 (by omega)) rfl rfl ?_
                    exact zeRe rfl rfl rfl rfl (by simp only [e_thread, h1, h2, h3, h4, h6, h8, h9, h10, h11, cond_true, cond_false] <;> rfl) (by simp only [e_thread, h1, h2, h3, h4, h6, h8, h9, h10, h11, cond_true, cond_false] <;> rfl)
                  | false =>
                    cases h12 : decide (x = Int32.ofNat 8) with
                    | true =>
                      refine zeSw (K := 8) rfl (of_decide_eq_true h12) rfl ?_
                      refine zeP rfl rfl ?_
                      refine zeGI rfl rfl (shS bb1 (by omega)) rfl rfl ?_
                      exact zeRe rfl rfl rfl rfl (by simp only [e_thread, h1, h2, h3, h4, h6, h8, h9, h10, h11, h12, cond_true, cond_false] <;> rfl) (by simp only [e_thread, h1, h2, h3, h4, h6, h8, h9, h10, h11, h12, cond_true, cond_false] <;> rfl)
                    | false =>
                      cases h13 : decide (x = Int32.ofNat 9) with
                      | true =>
                        refine zeSw (K := 9) rfl (of_decide_eq_true h13) rfl ?_
                        refine zeP rfl rfl ?_
                        refine zeGI rfl rfl (shS bb1 (by omega)) rfl rfl ?_
                        exact zeRe rfl rfl rfl rfl (by simp only [e_thread, h1, h2, h3, h4, h6, h8, h9, h10, h11, h12, h13, cond_true, cond_false] <;> rfl) (by simp only [e_thread, h1, h2, h3, h4, h6, h8, h9, h10, h11, h12, h13, cond_true, cond_false] <;> rfl)
                      | false =>
                        refine zeSwD rfl (zsw9 (of_decide_eq_false h2) (of_decide_eq_false h3) (of_decide_eq_false h4) (of_decide_eq_false h6) (of_decide_eq_false h8) (of_decide_eq_false h9) (of_decide_eq_false h10) (of_decide_eq_false h11) (of_decide_eq_false h12) (of_decide_eq_false h13)) rfl ?_
                        exact zeThr rfl rfl rfl rfl rfl rfl (by simp only [e_thread, h1, h2, h3, h4, h6, h8, h9, h10, h11, h12, h13, cond_true, cond_false] <;> rfl) (by simp only [e_thread, h1, h2, h3, h4, h6, h8, h9, h10, h11, h12, h13, cond_true, cond_false] <;> rfl)
noncomputable def e_leftOut (m : Nat → Nat → Int32) (t : Int32) (k : Int32) : (Int32 ⊕ Nat) := (bif sOK m t then (bif zc1 .lt k then (.inl ((-1))) else (bif zc2 .ge k (m ((1 + 14 + 7 * t.toNatClampNeg)) 5) then (.inl ((-1))) else (bif zc2 .ge k (Int32.ofNat 4) then (.inl ((-1))) else (.inl ((m ((1 + 15 + 7 * t.toNatClampNeg)) ((k.toNatClampNeg)))))))) else (.inr 0))
theorem ec_leftOut {σ : Nat → Nat × (Nat → Int32)} {yy : (Nat → Nat → Int64) × Bool × Nat × Nat} {m : Nat → Nat → Int32} {t : Int32} {k : Int32} (hC : CG m 1) : zF σ 3 1607 [.ref 0, .int t, .int k] (zS1, m, yy) (xo (e_leftOut m t k)) (zS1, m, (xy yy (e_leftOut m t k))) := by
  intro d hd
  obtain ⟨d, rfl⟩ : ∃ k, d = k + 1 := ⟨d - 1, by omega⟩
  show zEv σ (d + 1) 1607 0 [some (.ref 0), some (.int t), some (.int k), none] [] _ _ _
  refine zeP rfl rfl ?_
  refine zeP rfl rfl ?_
  cases h1 : sOK m t with
  | false =>
    exact zeThX rfl rfl rfl rfl rfl rfl (xn_1638 (m := m) (x := t) h1) (by omega) rfl rfl (by simp only [e_leftOut, h1, cond_true, cond_false] <;> rfl) (by simp only [e_leftOut, h1, cond_true, cond_false] <;> rfl)
  | true =>
    have c1 := xk_1638 (x := t) hC h1
    refine zeCV rfl rfl rfl rfl zS00 rfl (xo_1638 (m := m) (x := t) h1 hC) (by omega) ?_
    dsimp only [Option.toList, List.cons_append, List.nil_append]
    have t4 : t.toNatClampNeg < 4 := by have := hC.c4; omega
    refine zeGR rfl rfl (shS bb1 (by omega)) rfl rfl ?_
    refine zeP rfl rfl ?_
    refine zeP rfl rfl ?_
    refine zeB1 rfl rfl (fun h2 => ?_) (fun h2 => ?_)
    · refine zeK (v := -1) rfl rfl rfl ?_
      exact zeRe rfl rfl rfl rfl (by simp only [e_leftOut, h1, h2, cond_true, cond_false] <;> rfl) (by simp only [e_leftOut, h1, h2, cond_true, cond_false] <;> rfl)
    · refine zeP rfl rfl ?_
      refine zeP rfl rfl ?_
      refine zeGI rfl rfl (shG bb1 (by omega)) rfl rfl ?_
      refine zeB2 rfl rfl (fun h3 => ?_) (fun h3 => ?_)
      · refine zeK (v := -1) rfl rfl rfl ?_
        exact zeRe rfl rfl rfl rfl (by simp only [e_leftOut, h1, h2, h3, cond_true, cond_false] <;> rfl) (by simp only [e_leftOut, h1, h2, h3, cond_true, cond_false] <;> rfl)
      · refine zeP rfl rfl ?_
        refine zeKn (c := 4) rfl rfl rfl ?_
        refine zeB2 rfl rfl (fun h4 => ?_) (fun h4 => ?_)
        · refine zeK (v := -1) rfl rfl rfl ?_
          exact zeRe rfl rfl rfl rfl (by simp only [e_leftOut, h1, h2, h3, h4, cond_true, cond_false] <;> rfl) (by simp only [e_leftOut, h1, h2, h3, h4, cond_true, cond_false] <;> rfl)
        · have ck : k = Int32.ofNat k.toNatClampNeg ∧ k.toNatClampNeg < 4 := (ige_of (by omega) (by assumption) (by assumption))
          refine zeP rfl rfl ?_
          refine zeGR rfl rfl (shG bb1 (by omega)) rfl rfl ?_
          refine zeKn (c := k.toNatClampNeg) rfl rfl ck.1 ?_
          refine zeAL (k := (k.toNatClampNeg)) rfl (bbl bb1 (by omega) (by omega)) (shO bb1 (by omega)) rfl (by omega) ?_
          refine zeP rfl rfl ?_
          exact zeRe rfl rfl rfl rfl (by simp only [e_leftOut, h1, h2, h3, h4, cond_true, cond_false] <;> rfl) (by simp only [e_leftOut, h1, h2, h3, h4, cond_true, cond_false] <;> rfl)
noncomputable def e_blocks (m : Nat → Nat → Int32) (t : Int32) (x : Int32) : (Int32 ⊕ Nat) := (bif sOK m t then (bif tOK x then (bif zc1 .ne (Int32.ofNat (x.toNatClampNeg)) then (.inl ((m ((1 + 14 + 7 * t.toNatClampNeg)) 7))) else (.inl ((m ((1 + 14 + 7 * t.toNatClampNeg)) 6)))) else (.inr 1)) else (.inr 0))
theorem ec_blocks {σ : Nat → Nat × (Nat → Int32)} {yy : (Nat → Nat → Int64) × Bool × Nat × Nat} {m : Nat → Nat → Int32} {t : Int32} {x : Int32} (hC : CG m 1) : zF σ 3 1608 [.ref 0, .int t, .int x] (zS1, m, yy) (xo (e_blocks m t x)) (zS1, m, (xy yy (e_blocks m t x))) := by
  intro d hd
  obtain ⟨d, rfl⟩ : ∃ k, d = k + 1 := ⟨d - 1, by omega⟩
  show zEv σ (d + 1) 1608 0 [some (.ref 0), some (.int t), some (.int x), none] [] _ _ _
  refine zeP rfl rfl ?_
  refine zeP rfl rfl ?_
  cases h1 : sOK m t with
  | false =>
    exact zeThX rfl rfl rfl rfl rfl rfl (xn_1638 (m := m) (x := t) h1) (by omega) rfl rfl (by simp only [e_blocks, h1, cond_true, cond_false] <;> rfl) (by simp only [e_blocks, h1, cond_true, cond_false] <;> rfl)
  | true =>
    have c1 := xk_1638 (x := t) hC h1
    refine zeCV rfl rfl rfl rfl zS00 rfl (xo_1638 (m := m) (x := t) h1 hC) (by omega) ?_
    dsimp only [Option.toList, List.cons_append, List.nil_append]
    have t4 : t.toNatClampNeg < 4 := by have := hC.c4; omega
    refine zeGR rfl rfl (shS bb1 (by omega)) rfl rfl ?_
    refine zeP rfl rfl ?_
    refine zeP rfl rfl ?_
    cases h2 : tOK x with
    | false =>
      exact zeThX rfl rfl rfl rfl rfl rfl (xn_1640 (m := m) (x := x) h2) (by omega) rfl rfl (by simp only [e_blocks, h1, h2, cond_true, cond_false] <;> rfl) (by simp only [e_blocks, h1, h2, cond_true, cond_false] <;> rfl)
    | true =>
      have c2 := xk_1640 (x := x) h2
      refine zeCF rfl rfl rfl rfl rfl rfl (xo_1640 (m := m) (x := x) h2) (by omega) ?_
      dsimp only [Option.toList, List.cons_append, List.nil_append]
      refine zeB1 rfl rfl (fun h3 => ?_) (fun h3 => ?_)
      · refine zeP rfl rfl ?_
        refine zeGI rfl rfl (shG bb1 (by omega)) rfl rfl ?_
        exact zeRe rfl rfl rfl rfl (by simp only [e_blocks, h1, h2, h3, cond_true, cond_false] <;> rfl) (by simp only [e_blocks, h1, h2, h3, cond_true, cond_false] <;> rfl)
      · refine zeP rfl rfl ?_
        refine zeGI rfl rfl (shG bb1 (by omega)) rfl rfl ?_
        refine zeP rfl rfl ?_
        exact zeRe rfl rfl rfl rfl (by simp only [e_blocks, h1, h2, h3, cond_true, cond_false] <;> rfl) (by simp only [e_blocks, h1, h2, h3, cond_true, cond_false] <;> rfl)
noncomputable def xl_fellL (m : Nat → Nat → Int32) (t : Int32) (x : Nat) : Nat → Int32 → Nat → Int32
  | 0, a, k => a
  | n + 1, a, k => (bif zc2 .eq t (-1) then (xl_fellL m t x n ((a + (m ((1 + 13 + 7 * k)) x))) ((k + 1))) else (bif zc2 .ne t (Int32.ofNat k) then (xl_fellL m t x n a ((k + 1))) else (xl_fellL m t x n ((a + (m ((1 + 13 + 7 * k)) x))) ((k + 1)))))
theorem xw_fellL {σ : Nat → Nat × (Nat → Int32)} {yy : (Nat → Nat → Int64) × Bool × Nat × Nat} {m : Nat → Nat → Int32} {t : Int32} {x : Nat} {d : Nat} (hd : 2 ≤ d + 1) (hC : CG m 1) (h4 : mv m 1 5 ≤ 4) (hx : x < 5) : ∀ (n : Nat) (a : Int32) (k : Nat), k + n = mv m 1 5 → zEv σ (d + 1) 1609 35 [some (.ref 0), some (.int t), some (.int (Int32.ofNat x)), some (.int a), some (.int (Int32.ofNat k))] [] (zS1, m, yy) (.inl (some (.int (xl_fellL m t x n a k)))) (zS1, m, yy) := by
  intro n
  induction n with
  | zero =>
    intro a k hk
    refine zeP rfl rfl ?_
    refine zeP rfl rfl ?_
    refine zeGR rfl rfl zS00 rfl rfl ?_
    refine zeGI rfl rfl (shM bb1) rfl rfl ?_
    rw [hC.c]
    refine zeT2 rfl rfl (zcge (by omega) (by omega) (by omega)) ?_
    refine zeP rfl rfl ?_
    exact zeRe rfl rfl rfl rfl (by rfl) (by rfl)
  | succ n ih =>
    intro a k hk
    refine zeP rfl rfl ?_
    refine zeP rfl rfl ?_
    refine zeGR rfl rfl zS00 rfl rfl ?_
    refine zeGI rfl rfl (shM bb1) rfl rfl ?_
    rw [hC.c]
    refine zeF2 rfl rfl (zcge_f (by omega) (by omega) (by omega)) ?_
    refine zeP rfl rfl ?_
    refine zeK (v := -1) rfl rfl rfl ?_
    refine zeB2 rfl rfl (fun h1 => ?_) (fun h1 => ?_)
    · refine zeP rfl rfl ?_
      refine zeP rfl rfl ?_
      refine zeGR rfl rfl zS00 rfl rfl ?_
      refine zeP rfl rfl ?_
      refine zeCV rfl rfl rfl rfl (shM bb1) rfl (xc_strandAt (m := m) (b := 1) (t := k) bb1 (by omega)) (by omega) ?_
      dsimp only [Option.toList, List.cons_append, List.nil_append]
      refine zeGR rfl rfl (shS bb1 (by omega)) rfl rfl ?_
      refine zeP rfl rfl ?_
      refine zeAL (k := x) rfl (bbl bb1 (by omega) (by omega)) (shF bb1 (by omega)) rfl (by omega) ?_
      refine zeP rfl rfl ?_
      refine zeP rfl rfl ?_
      refine zeInc rfl rfl ?_
      refine zeP rfl rfl ?_
      simp only [xl_fellL, h1, cond_true, cond_false]
      exact ih ((a + (m ((1 + 13 + 7 * k)) x))) ((k + 1))   (by omega) 
    · refine zeP rfl rfl ?_
      refine zeP rfl rfl ?_
      refine zeB2 rfl rfl (fun h2 => ?_) (fun h2 => ?_)
      · refine zeInc rfl rfl ?_
        refine zeP rfl rfl ?_
        simp only [xl_fellL, h1, h2, cond_true, cond_false]
        exact ih (a) ((k + 1))   (by omega) 
      · refine zeP rfl rfl ?_
        refine zeP rfl rfl ?_
        refine zeGR rfl rfl zS00 rfl rfl ?_
        refine zeP rfl rfl ?_
        refine zeCV rfl rfl rfl rfl (shM bb1) rfl (xc_strandAt (m := m) (b := 1) (t := k) bb1 (by omega)) (by omega) ?_
        dsimp only [Option.toList, List.cons_append, List.nil_append]
        refine zeGR rfl rfl (shS bb1 (by omega)) rfl rfl ?_
        refine zeP rfl rfl ?_
        refine zeAL (k := x) rfl (bbl bb1 (by omega) (by omega)) (shF bb1 (by omega)) rfl (by omega) ?_
        refine zeP rfl rfl ?_
        refine zeP rfl rfl ?_
        refine zeInc rfl rfl ?_
        refine zeP rfl rfl ?_
        simp only [xl_fellL, h1, h2, cond_true, cond_false]
        exact ih ((a + (m ((1 + 13 + 7 * k)) x))) ((k + 1))   (by omega) 
noncomputable def e_fell (m : Nat → Nat → Int32) (t : Int32) (x : Int32) : (Int32 ⊕ Nat) := (bif zc2 .eq t (-1) then (bif zc1 .lt x then (.inr 1) else (bif zc2 .lt x (Int32.ofNat 5) then (.inl (xl_fellL m t ((x.toNatClampNeg)) ((mv m 1 5)) ((Int32.ofNat 0)) 0)) else (.inr 1))) else (bif sOK m t then (bif zc1 .lt x then (.inr 1) else (bif zc2 .lt x (Int32.ofNat 5) then (.inl (xl_fellL m t ((x.toNatClampNeg)) ((mv m 1 5)) ((Int32.ofNat 0)) 0)) else (.inr 1))) else (.inr 0)))
theorem ec_fell {σ : Nat → Nat × (Nat → Int32)} {yy : (Nat → Nat → Int64) × Bool × Nat × Nat} {m : Nat → Nat → Int32} {t : Int32} {x : Int32} (hC : CG m 1) : zF σ 3 1609 [.ref 0, .int t, .int x] (zS1, m, yy) (xo (e_fell m t x)) (zS1, m, (xy yy (e_fell m t x))) := by
  intro d hd
  obtain ⟨d, rfl⟩ : ∃ k, d = k + 1 := ⟨d - 1, by omega⟩
  show zEv σ (d + 1) 1609 0 [some (.ref 0), some (.int t), some (.int x), none, none] [] _ _ _
  refine zeP rfl rfl ?_
  refine zeK (v := -1) rfl rfl rfl ?_
  refine zeB2 rfl rfl (fun h1 => ?_) (fun h1 => ?_)
  · refine zeP rfl rfl ?_
    refine zeB1 rfl rfl (fun h2 => ?_) (fun h2 => ?_)
    · exact zeThr rfl rfl rfl rfl rfl rfl (by simp only [e_fell, h1, h2, cond_true, cond_false] <;> rfl) (by simp only [e_fell, h1, h2, cond_true, cond_false] <;> rfl)
    · refine zeP rfl rfl ?_
      refine zeKn (c := 5) rfl rfl rfl ?_
      refine zeB2 rfl rfl (fun h3 => ?_) (fun h3 => ?_)
      · have cx : x = Int32.ofNat x.toNatClampNeg ∧ x.toNatClampNeg < 5 := (i4_of (by omega) (by assumption) (by assumption))
        refine zeKn (c := 0) rfl rfl rfl ?_
        refine zeP rfl rfl ?_
        refine zeKn (c := 0) rfl rfl rfl ?_
        refine zeP rfl rfl ?_
        simp only [e_fell, h1, h2, h3, cond_true, cond_false]
        have ez := xw_fellL (σ := σ) (yy := yy) (d := d) (t := t) (x := (x.toNatClampNeg)) (m := m) (by omega) hC hC.c4 cx.2 ((mv m 1 5)) ((Int32.ofNat 0)) (0)   (by omega) 
        rw [← cx.1] at ez
        exact ez
      · exact zeThr rfl rfl rfl rfl rfl rfl (by simp only [e_fell, h1, h2, h3, cond_true, cond_false] <;> rfl) (by simp only [e_fell, h1, h2, h3, cond_true, cond_false] <;> rfl)
  · refine zeP rfl rfl ?_
    refine zeP rfl rfl ?_
    cases h4 : sOK m t with
    | false =>
      exact zeThX rfl rfl rfl rfl rfl rfl (xn_1638 (m := m) (x := t) h4) (by omega) rfl rfl (by simp only [e_fell, h1, h4, cond_true, cond_false] <;> rfl) (by simp only [e_fell, h1, h4, cond_true, cond_false] <;> rfl)
    | true =>
      have c4 := xk_1638 (x := t) hC h4
      refine zeCV rfl rfl rfl rfl zS00 rfl (xo_1638 (m := m) (x := t) h4 hC) (by omega) ?_
      dsimp only [Option.toList, List.cons_append, List.nil_append]
      refine zeP rfl rfl ?_
      refine zeP rfl rfl ?_
      refine zeB1 rfl rfl (fun h5 => ?_) (fun h5 => ?_)
      · exact zeThr rfl rfl rfl rfl rfl rfl (by simp only [e_fell, h1, h4, h5, cond_true, cond_false] <;> rfl) (by simp only [e_fell, h1, h4, h5, cond_true, cond_false] <;> rfl)
      · refine zeP rfl rfl ?_
        refine zeKn (c := 5) rfl rfl rfl ?_
        refine zeB2 rfl rfl (fun h6 => ?_) (fun h6 => ?_)
        · have cx : x = Int32.ofNat x.toNatClampNeg ∧ x.toNatClampNeg < 5 := (i4_of (by omega) (by assumption) (by assumption))
          refine zeKn (c := 0) rfl rfl rfl ?_
          refine zeP rfl rfl ?_
          refine zeKn (c := 0) rfl rfl rfl ?_
          refine zeP rfl rfl ?_
          simp only [e_fell, h1, h4, h5, h6, cond_true, cond_false]
          have ez := xw_fellL (σ := σ) (yy := yy) (d := d) (t := t) (x := (x.toNatClampNeg)) (m := m) (by omega) hC hC.c4 cx.2 ((mv m 1 5)) ((Int32.ofNat 0)) (0)   (by omega) 
          rw [← cx.1] at ez
          exact ez
        · exact zeThr rfl rfl rfl rfl rfl rfl (by simp only [e_fell, h1, h4, h5, h6, cond_true, cond_false] <;> rfl) (by simp only [e_fell, h1, h4, h5, h6, cond_true, cond_false] <;> rfl)
noncomputable def e_word (m : Nat → Nat → Int32) (w : Int32) : (Int32 ⊕ Nat) := (bif wOK w then (.inl ((m ((1 + 1)) ((w.toNatClampNeg))))) else (.inr 0))
theorem ec_word {σ : Nat → Nat × (Nat → Int32)} {yy : (Nat → Nat → Int64) × Bool × Nat × Nat} {m : Nat → Nat → Int32} {w : Int32} : zF σ 3 1610 [.ref 0, .int w] (zS1, m, yy) (xo (e_word m w)) (zS1, m, (xy yy (e_word m w))) := by
  intro d hd
  obtain ⟨d, rfl⟩ : ∃ k, d = k + 1 := ⟨d - 1, by omega⟩
  show zEv σ (d + 1) 1610 0 [some (.ref 0), some (.int w)] [] _ _ _
  refine zeP rfl rfl ?_
  refine zeGR rfl rfl zS00 rfl rfl ?_
  refine zeGR rfl rfl (shM bb1) rfl rfl ?_
  refine zeP rfl rfl ?_
  cases h1 : wOK w with
  | false =>
    exact zeThX rfl rfl rfl rfl rfl rfl (xn_1639 (m := m) (x := w) h1) (by omega) rfl rfl (by simp only [e_word, h1, cond_true, cond_false] <;> rfl) (by simp only [e_word, h1, cond_true, cond_false] <;> rfl)
  | true =>
    have c1 := xk_1639 (x := w) h1
    refine zeCF rfl rfl rfl rfl rfl rfl (xo_1639 (m := m) (x := w) h1) (by omega) ?_
    dsimp only [Option.toList, List.cons_append, List.nil_append]
    refine zeAL (k := (w.toNatClampNeg)) rfl rfl (shW bb1) rfl (by omega) ?_
    exact zeRe rfl rfl rfl rfl (by simp only [e_word, h1, cond_true, cond_false] <;> rfl) (by simp only [e_word, h1, cond_true, cond_false] <;> rfl)
noncomputable def e_sees (m : Nat → Nat → Int32) (t : Int32) (w : Int32) : (Int32 ⊕ Nat) := (bif sOK m t then (bif wOK w then (.inl ((x_seenBy m 1 (t.toNatClampNeg) ((w.toNatClampNeg))))) else (.inr 0)) else (.inr 0))
theorem ec_sees {σ : Nat → Nat × (Nat → Int32)} {yy : (Nat → Nat → Int64) × Bool × Nat × Nat} {m : Nat → Nat → Int32} {t : Int32} {w : Int32} (hC : CG m 1) : zF σ 3 1611 [.ref 0, .int t, .int w] (zS1, m, yy) (xo (e_sees m t w)) (zS1, m, (xy yy (e_sees m t w))) := by
  intro d hd
  obtain ⟨d, rfl⟩ : ∃ k, d = k + 1 := ⟨d - 1, by omega⟩
  show zEv σ (d + 1) 1611 0 [some (.ref 0), some (.int t), some (.int w), none] [] _ _ _
  refine zeP rfl rfl ?_
  refine zeP rfl rfl ?_
  cases h1 : sOK m t with
  | false =>
    exact zeThX rfl rfl rfl rfl rfl rfl (xn_1638 (m := m) (x := t) h1) (by omega) rfl rfl (by simp only [e_sees, h1, cond_true, cond_false] <;> rfl) (by simp only [e_sees, h1, cond_true, cond_false] <;> rfl)
  | true =>
    have c1 := xk_1638 (x := t) hC h1
    refine zeCV rfl rfl rfl rfl zS00 rfl (xo_1638 (m := m) (x := t) h1 hC) (by omega) ?_
    dsimp only [Option.toList, List.cons_append, List.nil_append]
    refine zeP rfl rfl ?_
    have t4 : t.toNatClampNeg < 4 := by have := hC.c4; omega
    refine zeP rfl rfl ?_
    refine zeGR rfl rfl zS00 rfl rfl ?_
    refine zeP rfl rfl ?_
    refine zeP rfl rfl ?_
    cases h2 : wOK w with
    | false =>
      exact zeThX rfl rfl rfl rfl rfl rfl (xn_1639 (m := m) (x := w) h2) (by omega) rfl rfl (by simp only [e_sees, h1, h2, cond_true, cond_false] <;> rfl) (by simp only [e_sees, h1, h2, cond_true, cond_false] <;> rfl)
    | true =>
      have c2 := xk_1639 (x := w) h2
      refine zeCF rfl rfl rfl rfl rfl rfl (xo_1639 (m := m) (x := w) h2) (by omega) ?_
      dsimp only [Option.toList, List.cons_append, List.nil_append]
      refine zeCV rfl rfl rfl rfl (shM bb1) rfl (xc_seenBy (m := m) (b := 1) (t := t.toNatClampNeg) (w := (w.toNatClampNeg)) bb1 t4 (by omega)) (by omega) ?_
      dsimp only [Option.toList, List.cons_append, List.nil_append]
      exact zeRe rfl rfl rfl rfl (by simp only [e_sees, h1, h2, cond_true, cond_false] <;> rfl) (by simp only [e_sees, h1, h2, cond_true, cond_false] <;> rfl)
noncomputable def e_lock (m : Nat → Nat → Int32) (l : Int32) (x : Int32) : (Int32 ⊕ Nat) := (bif zc1 .lt l then (.inr 0) else (bif zc2 .lt l (Int32.ofNat 4) then (bif decide (x = Int32.ofNat 0) then (.inl ((m ((1 + 5 + ((l.toNatClampNeg)))) 0))) else (bif decide (x = Int32.ofNat 1) then (.inl ((m ((1 + 1)) ((mv m (1 + 5 + l.toNatClampNeg) 0))))) else (bif decide (x = Int32.ofNat 2) then (.inl ((m ((1 + 5 + ((l.toNatClampNeg)))) 1))) else (bif decide (x = Int32.ofNat 3) then (.inl ((m ((1 + 5 + ((l.toNatClampNeg)))) 2))) else (bif decide (x = Int32.ofNat 4) then (.inl ((x_leavingOut m 1 ((Int32.ofNat (l.toNatClampNeg)))))) else (bif decide (x = Int32.ofNat 5) then (.inl ((m ((1 + 5 + ((l.toNatClampNeg)))) 3))) else (.inr 1))))))) else (.inr 0)))
theorem ec_lock {σ : Nat → Nat × (Nat → Int32)} {yy : (Nat → Nat → Int64) × Bool × Nat × Nat} {m : Nat → Nat → Int32} {l : Int32} {x : Int32} (hC : CG m 1) : zF σ 3 1612 [.ref 0, .int l, .int x] (zS1, m, yy) (xo (e_lock m l x)) (zS1, m, (xy yy (e_lock m l x))) := by
  intro d hd
  obtain ⟨d, rfl⟩ : ∃ k, d = k + 1 := ⟨d - 1, by omega⟩
  show zEv σ (d + 1) 1612 0 [some (.ref 0), some (.int l), some (.int x), none] [] _ _ _
  refine zeP rfl rfl ?_
  refine zeB1 rfl rfl (fun h1 => ?_) (fun h1 => ?_)
  · exact zeThr rfl rfl rfl rfl rfl rfl (by simp only [e_lock, h1, cond_true, cond_false] <;> rfl) (by simp only [e_lock, h1, cond_true, cond_false] <;> rfl)
  · refine zeP rfl rfl ?_
    refine zeKn (c := 4) rfl rfl rfl ?_
    refine zeB2 rfl rfl (fun h2 => ?_) (fun h2 => ?_)
    · have cl : l = Int32.ofNat l.toNatClampNeg ∧ l.toNatClampNeg < 4 := (i4_of (by omega) (by assumption) (by assumption))
      refine zeP rfl rfl ?_
      refine zeGR rfl rfl zS00 rfl rfl ?_
      refine zeKn (c := l.toNatClampNeg) rfl rfl cl.1 ?_
      refine zeCV rfl rfl rfl rfl (shM bb1) rfl (xc_lockAt (m := m) (b := 1) (l := (l.toNatClampNeg)) bb1 cl.2) (by omega) ?_
      dsimp only [Option.toList, List.cons_append, List.nil_append]
      refine zeP rfl rfl ?_
      refine zeP rfl rfl ?_
      cases h3 : decide (x = Int32.ofNat 0) with
      | true =>
        refine zeSw (K := 0) rfl (of_decide_eq_true h3) rfl ?_
        refine zeP rfl rfl ?_
        refine zeGI rfl rfl (shL bb1 (by omega)) rfl rfl ?_
        exact zeRe rfl rfl rfl rfl (by simp only [e_lock, h1, h2, h3, cond_true, cond_false] <;> rfl) (by simp only [e_lock, h1, h2, h3, cond_true, cond_false] <;> rfl)
      | false =>
        cases h4 : decide (x = Int32.ofNat 1) with
        | true =>
          refine zeSw (K := 1) rfl (of_decide_eq_true h4) rfl ?_
          refine zeP rfl rfl ?_
          refine zeGR rfl rfl zS00 rfl rfl ?_
          refine zeGR rfl rfl (shM bb1) rfl rfl ?_
          refine zeP rfl rfl ?_
          refine zeGI rfl rfl (shL bb1 (by omega)) rfl rfl ?_
          rw [(hC.w cl.2).1]
          refine zeKn (c := 31) rfl rfl rfl ?_
          refine zeON (c := (mv m (1 + 5 + l.toNatClampNeg) 0)) rfl rfl (zand31 _ (by have := (hC.w cl.2).2; omega)) ?_
          refine zeAL (k := (mv m (1 + 5 + l.toNatClampNeg) 0)) rfl rfl (shW bb1) rfl (by have := (hC.w cl.2).2; omega) ?_
          exact zeRe rfl rfl rfl rfl (by simp only [e_lock, h1, h2, h3, h4, cond_true, cond_false] <;> rfl) (by simp only [e_lock, h1, h2, h3, h4, cond_true, cond_false] <;> rfl)
        | false =>
          cases h5 : decide (x = Int32.ofNat 2) with
          | true =>
            refine zeSw (K := 2) rfl (of_decide_eq_true h5) rfl ?_
            refine zeP rfl rfl ?_
            refine zeGI rfl rfl (shL bb1 (by omega)) rfl rfl ?_
            exact zeRe rfl rfl rfl rfl (by simp only [e_lock, h1, h2, h3, h4, h5, cond_true, cond_false] <;> rfl) (by simp only [e_lock, h1, h2, h3, h4, h5, cond_true, cond_false] <;> rfl)
          | false =>
            cases h6 : decide (x = Int32.ofNat 3) with
            | true =>
              refine zeSw (K := 3) rfl (of_decide_eq_true h6) rfl ?_
              refine zeP rfl rfl ?_
              refine zeGI rfl rfl (shL bb1 (by omega)) rfl rfl ?_
              exact zeRe rfl rfl rfl rfl (by simp only [e_lock, h1, h2, h3, h4, h5, h6, cond_true, cond_false] <;> rfl) (by simp only [e_lock, h1, h2, h3, h4, h5, h6, cond_true, cond_false] <;> rfl)
            | false =>
              cases h7 : decide (x = Int32.ofNat 4) with
              | true =>
                refine zeSw (K := 4) rfl (of_decide_eq_true h7) rfl ?_
                refine zeP rfl rfl ?_
                refine zeGR rfl rfl zS00 rfl rfl ?_
                refine zeKn (c := l.toNatClampNeg) rfl rfl cl.1 ?_
                refine zeCV rfl rfl rfl rfl (shM bb1) rfl (xc_leavingOut (m := m) (b := 1) (l := (Int32.ofNat (l.toNatClampNeg))) bb1 hC) (by omega) ?_
                dsimp only [Option.toList, List.cons_append, List.nil_append]
                exact zeRe rfl rfl rfl rfl (by simp only [e_lock, h1, h2, h3, h4, h5, h6, h7, cond_true, cond_false] <;> rfl) (by simp only [e_lock, h1, h2, h3, h4, h5, h6, h7, cond_true, cond_false] <;> rfl)
              | false =>
                cases h8 : decide (x = Int32.ofNat 5) with
                | true =>
                  refine zeSw (K := 5) rfl (of_decide_eq_true h8) rfl ?_
                  refine zeP rfl rfl ?_
                  refine zeGI rfl rfl (shL bb1 (by omega)) rfl rfl ?_
                  exact zeRe rfl rfl rfl rfl (by simp only [e_lock, h1, h2, h3, h4, h5, h6, h7, h8, cond_true, cond_false] <;> rfl) (by simp only [e_lock, h1, h2, h3, h4, h5, h6, h7, h8, cond_true, cond_false] <;> rfl)
                | false =>
                  refine zeSwD rfl (zsw5 (of_decide_eq_false h3) (of_decide_eq_false h4) (of_decide_eq_false h5) (of_decide_eq_false h6) (of_decide_eq_false h7) (of_decide_eq_false h8)) rfl ?_
                  exact zeThr rfl rfl rfl rfl rfl rfl (by simp only [e_lock, h1, h2, h3, h4, h5, h6, h7, h8, cond_true, cond_false] <;> rfl) (by simp only [e_lock, h1, h2, h3, h4, h5, h6, h7, h8, cond_true, cond_false] <;> rfl)
    · exact zeThr rfl rfl rfl rfl rfl rfl (by simp only [e_lock, h1, h2, cond_true, cond_false] <;> rfl) (by simp only [e_lock, h1, h2, cond_true, cond_false] <;> rfl)
noncomputable def e_term (m : Nat → Nat → Int32) (x : Int32) : (Int32 ⊕ Nat) := (bif zc1 .lt x then (.inr 1) else (bif zc2 .le x (Int32.ofNat 8) then (.inl ((m ((1 + 3)) ((x.toNatClampNeg))))) else (.inr 1)))
theorem ec_term {σ : Nat → Nat × (Nat → Int32)} {yy : (Nat → Nat → Int64) × Bool × Nat × Nat} {m : Nat → Nat → Int32} {x : Int32} : zF σ 1 1613 [.ref 0, .int x] (zS1, m, yy) (xo (e_term m x)) (zS1, m, (xy yy (e_term m x))) := by
  intro d hd
  obtain ⟨d, rfl⟩ : ∃ k, d = k + 1 := ⟨d - 1, by omega⟩
  show zEv σ (d + 1) 1613 0 [some (.ref 0), some (.int x)] [] _ _ _
  refine zeP rfl rfl ?_
  refine zeB1 rfl rfl (fun h1 => ?_) (fun h1 => ?_)
  · exact zeThr rfl rfl rfl rfl rfl rfl (by simp only [e_term, h1, cond_true, cond_false] <;> rfl) (by simp only [e_term, h1, cond_true, cond_false] <;> rfl)
  · refine zeP rfl rfl ?_
    refine zeKn (c := 8) rfl rfl rfl ?_
    refine zeB2 rfl rfl (fun h2 => ?_) (fun h2 => ?_)
    · have cx : x = Int32.ofNat x.toNatClampNeg ∧ x.toNatClampNeg ≤ 8 := (i7_of (by omega) (by assumption) (by assumption))
      refine zeP rfl rfl ?_
      refine zeGR rfl rfl zS00 rfl rfl ?_
      refine zeGR rfl rfl (shM bb1) rfl rfl ?_
      refine zeKn (c := x.toNatClampNeg) rfl rfl cx.1 ?_
      refine zeAL (k := (x.toNatClampNeg)) rfl rfl (shE bb1) rfl (by omega) ?_
      exact zeRe rfl rfl rfl rfl (by simp only [e_term, h1, h2, cond_true, cond_false] <;> rfl) (by simp only [e_term, h1, h2, cond_true, cond_false] <;> rfl)
    · exact zeThr rfl rfl rfl rfl rfl rfl (by simp only [e_term, h1, h2, cond_true, cond_false] <;> rfl) (by simp only [e_term, h1, h2, cond_true, cond_false] <;> rfl)
noncomputable def e_deed (m : Nat → Nat → Int32) (t : Int32) (k : Int32) (x : Int32) : (Int32 ⊕ Nat) := (bif sOK m t then (bif tOK x then (bif zc1 .ne (Int32.ofNat (x.toNatClampNeg)) then (bif zc1 .lt k then (.inl ((-1))) else (bif zc2 .lt k (Int32.ofNat (mv m (1 + 10 + 7 * t.toNatClampNeg) 2)) then (.inl ((x_numberAt m 1 (t.toNatClampNeg) ((k.toNatClampNeg))))) else (.inl ((-1))))) else (bif zc1 .lt k then (.inl ((-1))) else (bif zc2 .lt k (Int32.ofNat (mv m (1 + 10 + 7 * t.toNatClampNeg) 2)) then (.inl ((x_kindAt m 1 (t.toNatClampNeg) ((k.toNatClampNeg))))) else (.inl ((-1)))))) else (.inr 1)) else (.inr 0))
theorem ec_deed {σ : Nat → Nat × (Nat → Int32)} {yy : (Nat → Nat → Int64) × Bool × Nat × Nat} {m : Nat → Nat → Int32} {t : Int32} {k : Int32} {x : Int32} (hC : CG m 1) (hK : KX m 1 P0) : zF σ 3 1614 [.ref 0, .int t, .int k, .int x] (zS1, m, yy) (xo (e_deed m t k x)) (zS1, m, (xy yy (e_deed m t k x))) := by
  intro d hd
  obtain ⟨d, rfl⟩ : ∃ k, d = k + 1 := ⟨d - 1, by omega⟩
  show zEv σ (d + 1) 1614 0 [some (.ref 0), some (.int t), some (.int k), some (.int x), none, none] [] _ _ _
  refine zeP rfl rfl ?_
  refine zeP rfl rfl ?_
  cases h1 : sOK m t with
  | false =>
    exact zeThX rfl rfl rfl rfl rfl rfl (xn_1638 (m := m) (x := t) h1) (by omega) rfl rfl (by simp only [e_deed, h1, cond_true, cond_false] <;> rfl) (by simp only [e_deed, h1, cond_true, cond_false] <;> rfl)
  | true =>
    have c1 := xk_1638 (x := t) hC h1
    refine zeCV rfl rfl rfl rfl zS00 rfl (xo_1638 (m := m) (x := t) h1 hC) (by omega) ?_
    dsimp only [Option.toList, List.cons_append, List.nil_append]
    refine zeP rfl rfl ?_
    have t4 : t.toNatClampNeg < 4 := by have := hC.c4; omega
    refine zeP rfl rfl ?_
    cases h2 : tOK x with
    | false =>
      exact zeThX rfl rfl rfl rfl rfl rfl (xn_1640 (m := m) (x := x) h2) (by omega) rfl rfl (by simp only [e_deed, h1, h2, cond_true, cond_false] <;> rfl) (by simp only [e_deed, h1, h2, cond_true, cond_false] <;> rfl)
    | true =>
      have c2 := xk_1640 (x := x) h2
      refine zeCF rfl rfl rfl rfl rfl rfl (xo_1640 (m := m) (x := x) h2) (by omega) ?_
      dsimp only [Option.toList, List.cons_append, List.nil_append]
      refine zeB1 rfl rfl (fun h3 => ?_) (fun h3 => ?_)
      · refine zeKn (c := 0) rfl rfl rfl ?_
        refine zeP rfl rfl ?_
        refine zeP rfl rfl ?_
        refine zeB1 rfl rfl (fun h4 => ?_) (fun h4 => ?_)
        · refine zeK (v := -1) rfl rfl rfl ?_
          exact zeRe rfl rfl rfl rfl (by simp only [e_deed, h1, h2, h3, h4, cond_true, cond_false] <;> rfl) (by simp only [e_deed, h1, h2, h3, h4, cond_true, cond_false] <;> rfl)
        · refine zeP rfl rfl ?_
          refine zeP rfl rfl ?_
          refine zeGI rfl rfl (shS bb1 (by omega)) rfl rfl ?_
          rw [(hK.1 t.toNatClampNeg t4).1.1]
          refine zeB2 rfl rfl (fun h5 => ?_) (fun h5 => ?_)
          · have ck : k = Int32.ofNat k.toNatClampNeg ∧ k.toNatClampNeg < mv m (1 + 10 + 7 * t.toNatClampNeg) 2 := (i4_of (by have := (hK.1 t.toNatClampNeg t4).1.2; omega) (by assumption) (by assumption))
            refine zeP rfl rfl ?_
            refine zeT1 rfl rfl (show zc1 .eq (Int32.ofNat 0) = true by decide) ?_
            refine zeP rfl rfl ?_
            refine zeKn (c := k.toNatClampNeg) rfl rfl ck.1 ?_
            refine zeCV rfl rfl rfl rfl (shS bb1 (by omega)) rfl (xc_numberAt (m := m) (b := 1) (t := t.toNatClampNeg) (p := (k.toNatClampNeg)) bb1 t4 (by have := (hK.1 t.toNatClampNeg t4).1.2; omega)) (by omega) ?_
            dsimp only [Option.toList, List.cons_append, List.nil_append]
            exact zeRe rfl rfl rfl rfl (by simp only [e_deed, h1, h2, h3, h4, h5, cond_true, cond_false] <;> rfl) (by simp only [e_deed, h1, h2, h3, h4, h5, cond_true, cond_false] <;> rfl)
          · refine zeK (v := -1) rfl rfl rfl ?_
            exact zeRe rfl rfl rfl rfl (by simp only [e_deed, h1, h2, h3, h4, h5, cond_true, cond_false] <;> rfl) (by simp only [e_deed, h1, h2, h3, h4, h5, cond_true, cond_false] <;> rfl)
      · refine zeKn (c := 1) rfl rfl rfl ?_
        refine zeP rfl rfl ?_
        refine zeP rfl rfl ?_
        refine zeP rfl rfl ?_
        refine zeB1 rfl rfl (fun h6 => ?_) (fun h6 => ?_)
        · refine zeK (v := -1) rfl rfl rfl ?_
          exact zeRe rfl rfl rfl rfl (by simp only [e_deed, h1, h2, h3, h6, cond_true, cond_false] <;> rfl) (by simp only [e_deed, h1, h2, h3, h6, cond_true, cond_false] <;> rfl)
        · refine zeP rfl rfl ?_
          refine zeP rfl rfl ?_
          refine zeGI rfl rfl (shS bb1 (by omega)) rfl rfl ?_
          rw [(hK.1 t.toNatClampNeg t4).1.1]
          refine zeB2 rfl rfl (fun h7 => ?_) (fun h7 => ?_)
          · have ck : k = Int32.ofNat k.toNatClampNeg ∧ k.toNatClampNeg < mv m (1 + 10 + 7 * t.toNatClampNeg) 2 := (i4_of (by have := (hK.1 t.toNatClampNeg t4).1.2; omega) (by assumption) (by assumption))
            refine zeP rfl rfl ?_
            refine zeF1 rfl rfl (show zc1 .eq (Int32.ofNat 1) = false by decide) ?_
            refine zeP rfl rfl ?_
            refine zeKn (c := k.toNatClampNeg) rfl rfl ck.1 ?_
            refine zeCV rfl rfl rfl rfl (shS bb1 (by omega)) rfl (xc_kindAt (m := m) (b := 1) (t := t.toNatClampNeg) (p := (k.toNatClampNeg)) bb1 t4 (by have := (hK.1 t.toNatClampNeg t4).1.2; omega)) (by omega) ?_
            dsimp only [Option.toList, List.cons_append, List.nil_append]
            refine zeP rfl rfl ?_
            exact zeRe rfl rfl rfl rfl (by simp only [e_deed, h1, h2, h3, h6, h7, cond_true, cond_false] <;> rfl) (by simp only [e_deed, h1, h2, h3, h6, h7, cond_true, cond_false] <;> rfl)
          · refine zeK (v := -1) rfl rfl rfl ?_
            exact zeRe rfl rfl rfl rfl (by simp only [e_deed, h1, h2, h3, h6, h7, cond_true, cond_false] <;> rfl) (by simp only [e_deed, h1, h2, h3, h6, h7, cond_true, cond_false] <;> rfl)
noncomputable def e_nest (m : Nat → Nat → Int32) (t : Int32) : (Int32 ⊕ Nat) := (bif sOK m t then (.inl ((x_mostHeld m 1 (t.toNatClampNeg)))) else (.inr 0))
theorem ec_nest {σ : Nat → Nat × (Nat → Int32)} {yy : (Nat → Nat → Int64) × Bool × Nat × Nat} {m : Nat → Nat → Int32} {t : Int32} (hC : CG m 1) (hK : KX m 1 P0) : zF σ 4 1628 [.ref 0, .int t] (zS1, m, yy) (xo (e_nest m t)) (zS1, m, (xy yy (e_nest m t))) := by
  intro d hd
  obtain ⟨d, rfl⟩ : ∃ k, d = k + 1 := ⟨d - 1, by omega⟩
  show zEv σ (d + 1) 1628 0 [some (.ref 0), some (.int t)] [] _ _ _
  refine zeP rfl rfl ?_
  refine zeP rfl rfl ?_
  cases h1 : sOK m t with
  | false =>
    exact zeThX rfl rfl rfl rfl rfl rfl (xn_1638 (m := m) (x := t) h1) (by omega) rfl rfl (by simp only [e_nest, h1, cond_true, cond_false] <;> rfl) (by simp only [e_nest, h1, cond_true, cond_false] <;> rfl)
  | true =>
    have c1 := xk_1638 (x := t) hC h1
    refine zeCV rfl rfl rfl rfl zS00 rfl (xo_1638 (m := m) (x := t) h1 hC) (by omega) ?_
    dsimp only [Option.toList, List.cons_append, List.nil_append]
    have t4 : t.toNatClampNeg < 4 := by have := hC.c4; omega
    refine zeCV rfl rfl rfl rfl (shS bb1 (by omega)) rfl (xc_mostHeld (m := m) (b := 1) (t := t.toNatClampNeg) bb1 t4 (hK.1 t.toNatClampNeg t4)) (by omega) ?_
    dsimp only [Option.toList, List.cons_append, List.nil_append]
    exact zeRe rfl rfl rfl rfl (by simp only [e_nest, h1, cond_true, cond_false] <;> rfl) (by simp only [e_nest, h1, cond_true, cond_false] <;> rfl)
noncomputable def e_parts (m : Nat → Nat → Int32) (t : Int32) : (Int32 ⊕ Nat) := (bif sOK m t then (.inl ((x_partCount m 1 (t.toNatClampNeg)))) else (.inr 0))
theorem ec_parts {σ : Nat → Nat × (Nat → Int32)} {yy : (Nat → Nat → Int64) × Bool × Nat × Nat} {m : Nat → Nat → Int32} {t : Int32} (hC : CG m 1) (hK : KX m 1 P0) : zF σ 5 1629 [.ref 0, .int t] (zS1, m, yy) (xo (e_parts m t)) (zS1, m, (xy yy (e_parts m t))) := by
  intro d hd
  obtain ⟨d, rfl⟩ : ∃ k, d = k + 1 := ⟨d - 1, by omega⟩
  show zEv σ (d + 1) 1629 0 [some (.ref 0), some (.int t)] [] _ _ _
  refine zeP rfl rfl ?_
  refine zeP rfl rfl ?_
  cases h1 : sOK m t with
  | false =>
    exact zeThX rfl rfl rfl rfl rfl rfl (xn_1638 (m := m) (x := t) h1) (by omega) rfl rfl (by simp only [e_parts, h1, cond_true, cond_false] <;> rfl) (by simp only [e_parts, h1, cond_true, cond_false] <;> rfl)
  | true =>
    have c1 := xk_1638 (x := t) hC h1
    refine zeCV rfl rfl rfl rfl zS00 rfl (xo_1638 (m := m) (x := t) h1 hC) (by omega) ?_
    dsimp only [Option.toList, List.cons_append, List.nil_append]
    have t4 : t.toNatClampNeg < 4 := by have := hC.c4; omega
    refine zeCV rfl rfl rfl rfl (shS bb1 (by omega)) rfl (xc_partCount (m := m) (b := 1) (t := t.toNatClampNeg) bb1 t4 (hK.1 t.toNatClampNeg t4)) (by omega) ?_
    dsimp only [Option.toList, List.cons_append, List.nil_append]
    exact zeRe rfl rfl rfl rfl (by simp only [e_parts, h1, cond_true, cond_false] <;> rfl) (by simp only [e_parts, h1, cond_true, cond_false] <;> rfl)
noncomputable def e_output (m : Nat → Nat → Int32) (k : Int32) (x : Int32) : (Int32 ⊕ Nat) := (bif tOK x then (bif zc1 .ne (Int32.ofNat (x.toNatClampNeg)) then (bif zc1 .lt k then (.inl ((-1))) else (bif zc2 .ge k (m 1 12) then (.inl ((-1))) else (bif zc2 .lt k (Int32.ofNat 20) then (.inl ((m ((1 + 39)) ((k.toNatClampNeg))))) else (.inl ((-1)))))) else (bif zc1 .lt k then (.inl ((-1))) else (bif zc2 .ge k (m 1 12) then (.inl ((-1))) else (bif zc2 .lt k (Int32.ofNat 20) then (.inl ((m ((1 + 38)) ((k.toNatClampNeg))))) else (.inl ((-1))))))) else (.inr 1))
theorem ec_output {σ : Nat → Nat × (Nat → Int32)} {yy : (Nat → Nat → Int64) × Bool × Nat × Nat} {m : Nat → Nat → Int32} {k : Int32} {x : Int32} (hC : CG m 1) : zF σ 3 1631 [.ref 0, .int k, .int x] (zS1, m, yy) (xo (e_output m k x)) (zS1, m, (xy yy (e_output m k x))) := by
  intro d hd
  obtain ⟨d, rfl⟩ : ∃ k, d = k + 1 := ⟨d - 1, by omega⟩
  show zEv σ (d + 1) 1631 0 [some (.ref 0), some (.int k), some (.int x), none] [] _ _ _
  refine zeP rfl rfl ?_
  cases h1 : tOK x with
  | false =>
    exact zeThX rfl rfl rfl rfl rfl rfl (xn_1640 (m := m) (x := x) h1) (by omega) rfl rfl (by simp only [e_output, h1, cond_true, cond_false] <;> rfl) (by simp only [e_output, h1, cond_true, cond_false] <;> rfl)
  | true =>
    have c1 := xk_1640 (x := x) h1
    refine zeCF rfl rfl rfl rfl rfl rfl (xo_1640 (m := m) (x := x) h1) (by omega) ?_
    dsimp only [Option.toList, List.cons_append, List.nil_append]
    refine zeB1 rfl rfl (fun h2 => ?_) (fun h2 => ?_)
    · refine zeKn (c := 0) rfl rfl rfl ?_
      refine zeP rfl rfl ?_
      refine zeP rfl rfl ?_
      refine zeB1 rfl rfl (fun h3 => ?_) (fun h3 => ?_)
      · refine zeK (v := -1) rfl rfl rfl ?_
        exact zeRe rfl rfl rfl rfl (by simp only [e_output, h1, h2, h3, cond_true, cond_false] <;> rfl) (by simp only [e_output, h1, h2, h3, cond_true, cond_false] <;> rfl)
      · refine zeP rfl rfl ?_
        refine zeP rfl rfl ?_
        refine zeGR rfl rfl zS00 rfl rfl ?_
        refine zeGI rfl rfl (shM bb1) rfl rfl ?_
        refine zeB2 rfl rfl (fun h4 => ?_) (fun h4 => ?_)
        · refine zeK (v := -1) rfl rfl rfl ?_
          exact zeRe rfl rfl rfl rfl (by simp only [e_output, h1, h2, h3, h4, cond_true, cond_false] <;> rfl) (by simp only [e_output, h1, h2, h3, h4, cond_true, cond_false] <;> rfl)
        · refine zeP rfl rfl ?_
          refine zeKn (c := 20) rfl rfl rfl ?_
          refine zeB2 rfl rfl (fun h5 => ?_) (fun h5 => ?_)
          · have ck : k = Int32.ofNat k.toNatClampNeg ∧ k.toNatClampNeg < 20 := (i4_of (by omega) (by assumption) (by assumption))
            refine zeP rfl rfl ?_
            refine zeT1 rfl rfl (show zc1 .eq (Int32.ofNat 0) = true by decide) ?_
            refine zeP rfl rfl ?_
            refine zeGR rfl rfl zS00 rfl rfl ?_
            refine zeGR rfl rfl (shM bb1) rfl rfl ?_
            refine zeKn (c := k.toNatClampNeg) rfl rfl ck.1 ?_
            refine zeAL (k := (k.toNatClampNeg)) rfl rfl (shOS bb1) rfl (by omega) ?_
            exact zeRe rfl rfl rfl rfl (by simp only [e_output, h1, h2, h3, h4, h5, cond_true, cond_false] <;> rfl) (by simp only [e_output, h1, h2, h3, h4, h5, cond_true, cond_false] <;> rfl)
          · refine zeK (v := -1) rfl rfl rfl ?_
            exact zeRe rfl rfl rfl rfl (by simp only [e_output, h1, h2, h3, h4, h5, cond_true, cond_false] <;> rfl) (by simp only [e_output, h1, h2, h3, h4, h5, cond_true, cond_false] <;> rfl)
    · refine zeKn (c := 1) rfl rfl rfl ?_
      refine zeP rfl rfl ?_
      refine zeP rfl rfl ?_
      refine zeP rfl rfl ?_
      refine zeB1 rfl rfl (fun h6 => ?_) (fun h6 => ?_)
      · refine zeK (v := -1) rfl rfl rfl ?_
        exact zeRe rfl rfl rfl rfl (by simp only [e_output, h1, h2, h6, cond_true, cond_false] <;> rfl) (by simp only [e_output, h1, h2, h6, cond_true, cond_false] <;> rfl)
      · refine zeP rfl rfl ?_
        refine zeP rfl rfl ?_
        refine zeGR rfl rfl zS00 rfl rfl ?_
        refine zeGI rfl rfl (shM bb1) rfl rfl ?_
        refine zeB2 rfl rfl (fun h7 => ?_) (fun h7 => ?_)
        · refine zeK (v := -1) rfl rfl rfl ?_
          exact zeRe rfl rfl rfl rfl (by simp only [e_output, h1, h2, h6, h7, cond_true, cond_false] <;> rfl) (by simp only [e_output, h1, h2, h6, h7, cond_true, cond_false] <;> rfl)
        · refine zeP rfl rfl ?_
          refine zeKn (c := 20) rfl rfl rfl ?_
          refine zeB2 rfl rfl (fun h8 => ?_) (fun h8 => ?_)
          · have ck : k = Int32.ofNat k.toNatClampNeg ∧ k.toNatClampNeg < 20 := (i4_of (by omega) (by assumption) (by assumption))
            refine zeP rfl rfl ?_
            refine zeF1 rfl rfl (show zc1 .eq (Int32.ofNat 1) = false by decide) ?_
            refine zeP rfl rfl ?_
            refine zeGR rfl rfl zS00 rfl rfl ?_
            refine zeGR rfl rfl (shM bb1) rfl rfl ?_
            refine zeKn (c := k.toNatClampNeg) rfl rfl ck.1 ?_
            refine zeAL (k := (k.toNatClampNeg)) rfl rfl (shOT bb1) rfl (by omega) ?_
            refine zeP rfl rfl ?_
            exact zeRe rfl rfl rfl rfl (by simp only [e_output, h1, h2, h6, h7, h8, cond_true, cond_false] <;> rfl) (by simp only [e_output, h1, h2, h6, h7, h8, cond_true, cond_false] <;> rfl)
          · refine zeK (v := -1) rfl rfl rfl ?_
            exact zeRe rfl rfl rfl rfl (by simp only [e_output, h1, h2, h6, h7, h8, cond_true, cond_false] <;> rfl) (by simp only [e_output, h1, h2, h6, h7, h8, cond_true, cond_false] <;> rfl)
noncomputable def e_log (m : Nat → Nat → Int32) (k : Int32) (x : Int32) : (Int32 ⊕ Nat) := (bif zc1 .lt x then (.inr 1) else (bif zc2 .lt x (Int32.ofNat 4) then (.inl ((x_logCell m 1 k x))) else (.inr 1)))
theorem ec_log {σ : Nat → Nat × (Nat → Int32)} {yy : (Nat → Nat → Int64) × Bool × Nat × Nat} {m : Nat → Nat → Int32} {k : Int32} {x : Int32} : zF σ 2 1632 [.ref 0, .int k, .int x] (zS1, m, yy) (xo (e_log m k x)) (zS1, m, (xy yy (e_log m k x))) := by
  intro d hd
  obtain ⟨d, rfl⟩ : ∃ k, d = k + 1 := ⟨d - 1, by omega⟩
  show zEv σ (d + 1) 1632 0 [some (.ref 0), some (.int k), some (.int x)] [] _ _ _
  refine zeP rfl rfl ?_
  refine zeB1 rfl rfl (fun h1 => ?_) (fun h1 => ?_)
  · exact zeThr rfl rfl rfl rfl rfl rfl (by simp only [e_log, h1, cond_true, cond_false] <;> rfl) (by simp only [e_log, h1, cond_true, cond_false] <;> rfl)
  · refine zeP rfl rfl ?_
    refine zeKn (c := 4) rfl rfl rfl ?_
    refine zeB2 rfl rfl (fun h2 => ?_) (fun h2 => ?_)
    · refine zeP rfl rfl ?_
      refine zeGR rfl rfl zS00 rfl rfl ?_
      refine zeGR rfl rfl (shM bb1) rfl rfl ?_
      refine zeP rfl rfl ?_
      refine zeP rfl rfl ?_
      refine zeCV rfl rfl rfl rfl (shLG bb1) rfl (xc_logCell (m := m) (b := 1) (k := k) (x := x) bb1) (by omega) ?_
      dsimp only [Option.toList, List.cons_append, List.nil_append]
      exact zeRe rfl rfl rfl rfl (by simp only [e_log, h1, h2, cond_true, cond_false] <;> rfl) (by simp only [e_log, h1, h2, cond_true, cond_false] <;> rfl)
    · exact zeThr rfl rfl rfl rfl rfl rfl (by simp only [e_log, h1, h2, cond_true, cond_false] <;> rfl) (by simp only [e_log, h1, h2, cond_true, cond_false] <;> rfl)
noncomputable def e_count (m : Nat → Nat → Int32) (x : Int32) : Int32 := (bif decide (x = Int32.ofNat 0) then (m 1 5) else (bif decide (x = Int32.ofNat 1) then (m 1 6) else (bif decide (x = Int32.ofNat 2) then (m 1 7) else (bif decide (x = Int32.ofNat 3) then (x_doneBits m 1) else (bif decide (x = Int32.ofNat 4) then (x_guessingBits m 1) else (bif decide (x = Int32.ofNat 5) then (x_allKept m 1) else (bif decide (x = Int32.ofNat 6) then (x_lockBits m 1) else (bif decide (x = Int32.ofNat 7) then (m 1 12) else (bif decide (x = Int32.ofNat 8) then (m ((1 + 40)) 1) else (bif decide (x = Int32.ofNat 9) then (m 1 8) else (-1)))))))))))
theorem ec_count {σ : Nat → Nat × (Nat → Int32)} {yy : (Nat → Nat → Int64) × Bool × Nat × Nat} {m : Nat → Nat → Int32} {x : Int32} (hC : CG m 1) : zF σ 4 1637 [.ref 0, .int x] (zS1, m, yy) (.inl (some (.int (e_count m x)))) (zS1, m, yy) := by
  intro d hd
  obtain ⟨d, rfl⟩ : ∃ k, d = k + 1 := ⟨d - 1, by omega⟩
  show zEv σ (d + 1) 1637 0 [some (.ref 0), some (.int x)] [] _ _ _
  refine zeP rfl rfl ?_
  cases h1 : decide (x = Int32.ofNat 0) with
  | true =>
    refine zeSw (K := 0) rfl (of_decide_eq_true h1) rfl ?_
    refine zeP rfl rfl ?_
    refine zeGR rfl rfl zS00 rfl rfl ?_
    refine zeGI rfl rfl (shM bb1) rfl rfl ?_
    exact zeRe rfl rfl rfl rfl (by simp only [e_count, h1, cond_true, cond_false] <;> rfl) (by simp only [e_count, h1, cond_true, cond_false] <;> rfl)
  | false =>
    cases h2 : decide (x = Int32.ofNat 1) with
    | true =>
      refine zeSw (K := 1) rfl (of_decide_eq_true h2) rfl ?_
      refine zeP rfl rfl ?_
      refine zeGR rfl rfl zS00 rfl rfl ?_
      refine zeGI rfl rfl (shM bb1) rfl rfl ?_
      exact zeRe rfl rfl rfl rfl (by simp only [e_count, h1, h2, cond_true, cond_false] <;> rfl) (by simp only [e_count, h1, h2, cond_true, cond_false] <;> rfl)
    | false =>
      cases h3 : decide (x = Int32.ofNat 2) with
      | true =>
        refine zeSw (K := 2) rfl (of_decide_eq_true h3) rfl ?_
        refine zeP rfl rfl ?_
        refine zeGR rfl rfl zS00 rfl rfl ?_
        refine zeGI rfl rfl (shM bb1) rfl rfl ?_
        exact zeRe rfl rfl rfl rfl (by simp only [e_count, h1, h2, h3, cond_true, cond_false] <;> rfl) (by simp only [e_count, h1, h2, h3, cond_true, cond_false] <;> rfl)
      | false =>
        cases h4 : decide (x = Int32.ofNat 3) with
        | true =>
          refine zeSw (K := 3) rfl (of_decide_eq_true h4) rfl ?_
          refine zeP rfl rfl ?_
          refine zeGR rfl rfl zS00 rfl rfl ?_
          refine zeCV rfl rfl rfl rfl (shM bb1) rfl (xc_doneBits (m := m) (b := 1) bb1 hC) (by omega) ?_
          dsimp only [Option.toList, List.cons_append, List.nil_append]
          exact zeRe rfl rfl rfl rfl (by simp only [e_count, h1, h2, h3, h4, cond_true, cond_false] <;> rfl) (by simp only [e_count, h1, h2, h3, h4, cond_true, cond_false] <;> rfl)
        | false =>
          cases h5 : decide (x = Int32.ofNat 4) with
          | true =>
            refine zeSw (K := 4) rfl (of_decide_eq_true h5) rfl ?_
            refine zeP rfl rfl ?_
            refine zeGR rfl rfl zS00 rfl rfl ?_
            refine zeCV rfl rfl rfl rfl (shM bb1) rfl (xc_guessingBits (m := m) (b := 1) bb1 hC) (by omega) ?_
            dsimp only [Option.toList, List.cons_append, List.nil_append]
            exact zeRe rfl rfl rfl rfl (by simp only [e_count, h1, h2, h3, h4, h5, cond_true, cond_false] <;> rfl) (by simp only [e_count, h1, h2, h3, h4, h5, cond_true, cond_false] <;> rfl)
          | false =>
            cases h6 : decide (x = Int32.ofNat 5) with
            | true =>
              refine zeSw (K := 5) rfl (of_decide_eq_true h6) rfl ?_
              refine zeP rfl rfl ?_
              refine zeGR rfl rfl zS00 rfl rfl ?_
              refine zeCV rfl rfl rfl rfl (shM bb1) rfl (xc_allKept (m := m) (b := 1) bb1 hC) (by omega) ?_
              dsimp only [Option.toList, List.cons_append, List.nil_append]
              exact zeRe rfl rfl rfl rfl (by simp only [e_count, h1, h2, h3, h4, h5, h6, cond_true, cond_false] <;> rfl) (by simp only [e_count, h1, h2, h3, h4, h5, h6, cond_true, cond_false] <;> rfl)
            | false =>
              cases h7 : decide (x = Int32.ofNat 6) with
              | true =>
                refine zeSw (K := 6) rfl (of_decide_eq_true h7) rfl ?_
                refine zeP rfl rfl ?_
                refine zeGR rfl rfl zS00 rfl rfl ?_
                refine zeCV rfl rfl rfl rfl (shM bb1) rfl (xc_lockBits (m := m) (b := 1) bb1 hC) (by omega) ?_
                dsimp only [Option.toList, List.cons_append, List.nil_append]
                exact zeRe rfl rfl rfl rfl (by simp only [e_count, h1, h2, h3, h4, h5, h6, h7, cond_true, cond_false] <;> rfl) (by simp only [e_count, h1, h2, h3, h4, h5, h6, h7, cond_true, cond_false] <;> rfl)
              | false =>
                cases h8 : decide (x = Int32.ofNat 7) with
                | true =>
                  refine zeSw (K := 7) rfl (of_decide_eq_true h8) rfl ?_
                  refine zeP rfl rfl ?_
                  refine zeGR rfl rfl zS00 rfl rfl ?_
                  refine zeGI rfl rfl (shM bb1) rfl rfl ?_
                  exact zeRe rfl rfl rfl rfl (by simp only [e_count, h1, h2, h3, h4, h5, h6, h7, h8, cond_true, cond_false] <;> rfl) (by simp only [e_count, h1, h2, h3, h4, h5, h6, h7, h8, cond_true, cond_false] <;> rfl)
                | false =>
                  cases h9 : decide (x = Int32.ofNat 8) with
                  | true =>
                    refine zeSw (K := 8) rfl (of_decide_eq_true h9) rfl ?_
                    refine zeP rfl rfl ?_
                    refine zeGR rfl rfl zS00 rfl rfl ?_
                    refine zeGR rfl rfl (shM bb1) rfl rfl ?_
                    refine zeGI rfl rfl (shLG bb1) rfl rfl ?_
                    exact zeRe rfl rfl rfl rfl (by simp only [e_count, h1, h2, h3, h4, h5, h6, h7, h8, h9, cond_true, cond_false] <;> rfl) (by simp only [e_count, h1, h2, h3, h4, h5, h6, h7, h8, h9, cond_true, cond_false] <;> rfl)
                  | false =>
                    cases h10 : decide (x = Int32.ofNat 9) with
                    | true =>
                      refine zeSw (K := 9) rfl (of_decide_eq_true h10) rfl ?_
                      refine zeP rfl rfl ?_
                      refine zeGR rfl rfl zS00 rfl rfl ?_
                      refine zeGI rfl rfl (shM bb1) rfl rfl ?_
                      exact zeRe rfl rfl rfl rfl (by simp only [e_count, h1, h2, h3, h4, h5, h6, h7, h8, h9, h10, cond_true, cond_false] <;> rfl) (by simp only [e_count, h1, h2, h3, h4, h5, h6, h7, h8, h9, h10, cond_true, cond_false] <;> rfl)
                    | false =>
                      refine zeSwD rfl (zsw9 (of_decide_eq_false h1) (of_decide_eq_false h2) (of_decide_eq_false h3) (of_decide_eq_false h4) (of_decide_eq_false h5) (of_decide_eq_false h6) (of_decide_eq_false h7) (of_decide_eq_false h8) (of_decide_eq_false h9) (of_decide_eq_false h10)) rfl ?_
                      refine zeK (v := -1) rfl rfl rfl ?_
                      exact zeRe rfl rfl rfl rfl (by simp only [e_count, h1, h2, h3, h4, h5, h6, h7, h8, h9, h10, cond_true, cond_false] <;> rfl) (by simp only [e_count, h1, h2, h3, h4, h5, h6, h7, h8, h9, h10, cond_true, cond_false] <;> rfl)
noncomputable def e_end (m : Nat → Nat → Int32) (n : Int32) : Int32 × (Nat → Nat → Int32) := (bif zc1 .lt n then ((Int32.ofNat 0), m) else (bif zc2 .le n (m 0 5) then ((Int32.ofNat 1), (zm2 m 0 5 n)) else ((Int32.ofNat 0), m)))
theorem ec_end {σ : Nat → Nat × (Nat → Int32)} {yy : (Nat → Nat → Int64) × Bool × Nat × Nat} {m : Nat → Nat → Int32} {n : Int32} : zF σ 1 1603 [.ref 0, .int n] (zS1, m, yy) (.inl (some (.int (e_end m n).1))) (zS1, (e_end m n).2, yy) := by
  intro d hd
  obtain ⟨d, rfl⟩ : ∃ k, d = k + 1 := ⟨d - 1, by omega⟩
  show zEv σ (d + 1) 1603 0 [some (.ref 0), some (.int n)] [] _ _ _
  refine zeP rfl rfl ?_
  refine zeB1 rfl rfl (fun h1 => ?_) (fun h1 => ?_)
  · refine zeKn (c := 0) rfl rfl rfl ?_
    exact zeRe rfl rfl rfl rfl (by simp only [e_end, h1, cond_true, cond_false] <;> rfl) (by simp only [e_end, h1, cond_true, cond_false] <;> rfl)
  · refine zeP rfl rfl ?_
    refine zeP rfl rfl ?_
    refine zeGI rfl rfl zS00 rfl rfl ?_
    refine zeB2 rfl rfl (fun h2 => ?_) (fun h2 => ?_)
    · refine zeP rfl rfl ?_
      refine zeP rfl rfl ?_
      refine zePI rfl rfl zS00 rfl ?_
      refine zeKn (c := 1) rfl rfl rfl ?_
      exact zeRe rfl rfl rfl rfl (by simp only [e_end, h1, h2, cond_true, cond_false] <;> rfl) (by simp only [e_end, h1, h2, cond_true, cond_false] <;> rfl)
    · refine zeKn (c := 0) rfl rfl rfl ?_
      exact zeRe rfl rfl rfl rfl (by simp only [e_end, h1, h2, cond_true, cond_false] <;> rfl) (by simp only [e_end, h1, h2, cond_true, cond_false] <;> rfl)
noncomputable def e_seed (m : Nat → Nat → Int32) (n : Int32) : Int32 × (Nat → Nat → Int32) := ((m 1 9), (zm2 m 1 9 n))
theorem ec_seed {σ : Nat → Nat × (Nat → Int32)} {yy : (Nat → Nat → Int64) × Bool × Nat × Nat} {m : Nat → Nat → Int32} {n : Int32} : zF σ 1 1621 [.ref 0, .int n] (zS1, m, yy) (.inl (some (.int (e_seed m n).1))) (zS1, (e_seed m n).2, yy) := by
  intro d hd
  obtain ⟨d, rfl⟩ : ∃ k, d = k + 1 := ⟨d - 1, by omega⟩
  show zEv σ (d + 1) 1621 0 [some (.ref 0), some (.int n), none] [] _ _ _
  refine zeP rfl rfl ?_
  refine zeGR rfl rfl zS00 rfl rfl ?_
  refine zeGI rfl rfl (shM bb1) rfl rfl ?_
  refine zeP rfl rfl ?_
  refine zeP rfl rfl ?_
  refine zeGR rfl rfl zS00 rfl rfl ?_
  refine zeP rfl rfl ?_
  refine zePI rfl rfl (shM bb1) rfl ?_
  refine zeP rfl rfl ?_
  exact zeRe rfl rfl rfl rfl (by rfl) (by rfl)
theorem i18_of {x : Int32} (h1 : zc2 .lt x (Int32.ofNat 1) = false) (h2 : zc2 .le x (Int32.ofNat 8) = true) : x = Int32.ofNat x.toNatClampNeg ∧ x.toNatClampNeg ≤ 8 := by
  have a := of_decide_eq_false h1
  have c := of_decide_eq_true h2
  rw [Int32.lt_iff_toInt_lt, zoN (by omega)] at a
  rw [Int32.le_iff_toInt_le, zoN (by omega)] at c
  obtain ⟨g1, g2⟩ := nat_ge (x := x) (by omega)
  exact ⟨g1, by omega⟩
noncomputable def e_tune (m : Nat → Nat → Int32) (x : Int32) (n : Int32) : (Int32 ⊕ Nat) × (Nat → Nat → Int32) := (bif zc2 .lt x (Int32.ofNat 1) then ((.inr 1), m) else (bif zc2 .le x (Int32.ofNat 8) then (bif zc2 .lt n ((zla 0).getD ((x.toNatClampNeg)) 0) then ((.inr 2), m) else (bif zc2 .le n ((zla 1).getD ((x.toNatClampNeg)) 0) then ((.inl ((m ((1 + 3)) ((x.toNatClampNeg))))), (zm2 m ((1 + 3)) ((x.toNatClampNeg)) n)) else ((.inr 2), m))) else ((.inr 1), m)))
theorem ec_tune {σ : Nat → Nat × (Nat → Int32)} {yy : (Nat → Nat → Int64) × Bool × Nat × Nat} {m : Nat → Nat → Int32} {x : Int32} {n : Int32} (hs : ZS σ) : zF σ 1 1620 [.ref 0, .int x, .int n] (zS1, m, yy) (xo (e_tune m x n).1) (zS1, (e_tune m x n).2, (xy yy (e_tune m x n).1)) := by
  intro d hd
  obtain ⟨d, rfl⟩ : ∃ k, d = k + 1 := ⟨d - 1, by omega⟩
  show zEv σ (d + 1) 1620 0 [some (.ref 0), some (.int x), some (.int n), none] [] _ _ _
  refine zeP rfl rfl ?_
  refine zeKn (c := 1) rfl rfl rfl ?_
  refine zeB2 rfl rfl (fun h1 => ?_) (fun h1 => ?_)
  · exact zeThr rfl rfl rfl rfl rfl rfl (by simp only [e_tune, h1, cond_true, cond_false] <;> rfl) (by simp only [e_tune, h1, cond_true, cond_false] <;> rfl)
  · refine zeP rfl rfl ?_
    refine zeKn (c := 8) rfl rfl rfl ?_
    refine zeB2 rfl rfl (fun h2 => ?_) (fun h2 => ?_)
    · have cx : x = Int32.ofNat x.toNatClampNeg ∧ x.toNatClampNeg ≤ 8 := (i18_of (by assumption) (by assumption))
      refine zeP rfl rfl ?_
      refine zeS rfl rfl rfl ?_
      refine zeKn (c := x.toNatClampNeg) rfl rfl cx.1 ?_
      refine zeSt (n := 0) (k := (x.toNatClampNeg)) hs (by omega) rfl (by show _ < 9; omega) (by decide) ?_
      refine zeB2 rfl rfl (fun h3 => ?_) (fun h3 => ?_)
      · exact zeThr rfl rfl rfl rfl rfl rfl (by simp only [e_tune, h1, h2, h3, cond_true, cond_false] <;> rfl) (by simp only [e_tune, h1, h2, h3, cond_true, cond_false] <;> rfl)
      · refine zeP rfl rfl ?_
        refine zeS rfl rfl rfl ?_
        refine zeKn (c := x.toNatClampNeg) rfl rfl cx.1 ?_
        refine zeSt (n := 1) (k := (x.toNatClampNeg)) hs (by omega) rfl (by show _ < 9; omega) (by decide) ?_
        refine zeB2 rfl rfl (fun h4 => ?_) (fun h4 => ?_)
        · refine zeP rfl rfl ?_
          refine zeGR rfl rfl zS00 rfl rfl ?_
          refine zeGR rfl rfl (shM bb1) rfl rfl ?_
          refine zeKn (c := x.toNatClampNeg) rfl rfl cx.1 ?_
          refine zeAL (k := (x.toNatClampNeg)) rfl rfl (shE bb1) rfl (by omega) ?_
          refine zeP rfl rfl ?_
          refine zeP rfl rfl ?_
          refine zeGR rfl rfl zS00 rfl rfl ?_
          refine zeGR rfl rfl (shM bb1) rfl rfl ?_
          refine zeKn (c := x.toNatClampNeg) rfl rfl cx.1 ?_
          refine zeP rfl rfl ?_
          refine zeAS (k := (x.toNatClampNeg)) rfl (shE bb1) rfl (by omega) ?_
          refine zeP rfl rfl ?_
          exact zeRe rfl rfl rfl rfl (by simp only [e_tune, h1, h2, h3, h4, cond_true, cond_false] <;> rfl) (by simp only [e_tune, h1, h2, h3, h4, cond_true, cond_false] <;> rfl)
        · exact zeThr rfl rfl rfl rfl rfl rfl (by simp only [e_tune, h1, h2, h3, h4, cond_true, cond_false] <;> rfl) (by simp only [e_tune, h1, h2, h3, h4, cond_true, cond_false] <;> rfl)
    · exact zeThr rfl rfl rfl rfl rfl rfl (by simp only [e_tune, h1, h2, cond_true, cond_false] <;> rfl) (by simp only [e_tune, h1, h2, cond_true, cond_false] <;> rfl)
end
