/-! the class's draft stays in order as a text is read -/
section ZCX
variable {m : Nat → Nat → Int32} {b t l : Nat} {P : Nat → Prop}
theorem ncX {a k : Nat} (h : a = b + 1 ∨ a = b + 2 ∨ a = b + 3) : ¬ CGc b a k := by
  intro h
  rcases h with ⟨_, _⟩ | ⟨_, _⟩ | ⟨u, _, ⟨_, _⟩ | _⟩ | ⟨l, _, _, _⟩ <;> omega
theorem ncT {j k : Nat} (ht : t < 4) (hj : j ≤ 3) : ¬ CGc b (b + (10 + j) + 7 * t) k := by
  intro h
  rcases h with ⟨_, _⟩ | ⟨_, _⟩ | ⟨u, _, ⟨_, _⟩ | _⟩ | ⟨l, _, _, _⟩ <;> omega
theorem CG.setw {n : Nat} (h : CG m b) (hl : l < 4) (hn : n ≤ 31) : CG (zm2 m (b + 5 + l) 0 (Int32.ofNat n)) b := by
  refine ⟨h.1.of (zx_ne _ _ _ (by omega)), h.2.1.of (zx_ne _ _ _ (by omega)), fun t ht => ⟨(h.2.2.1 t ht).1.of (zx_ne _ _ _ (by omega)), fun k hk => ((h.2.2.1 t ht).2 k hk).of (zx_ne _ _ _ (by omega))⟩, h.2.2.2.1.of (zx_ne _ _ _ (by omega)), fun u hu => ?_⟩
  by_cases e : u = l
  · subst e
    exact okm.is (zx_at _ _ _ _) hn (by omega)
  · exact (h.2.2.2.2 u hu).of (zx_ne _ _ _ (by omega))
theorem CG.setc {n : Nat} (h : CG m b) (hn : n ≤ 4) : CG (zm2 m b 5 (Int32.ofNat n)) b :=
  ⟨h.1.of (zx_ne _ _ _ (by omega)), okm.is (zx_at _ _ _ _) hn (by omega), fun t ht => ⟨(h.2.2.1 t ht).1.of (zx_ne _ _ _ (by omega)), fun k hk => ((h.2.2.1 t ht).2 k hk).of (zx_ne _ _ _ (by omega))⟩, h.2.2.2.1.of (zx_nk _ _ (by omega)), fun u hu => (h.2.2.2.2 u hu).of (zx_ne _ _ _ (by omega))⟩
theorem CG.clear (h : CG m b) (ht : t < 4) : CG (x_clear m b t) b := by
  have key : ∀ n k (m : Nat → Nat → Int32), CG m b → CG (xl_clear b t n k m) b := by
    intro n
    induction n with
    | zero => intro k m h; exact h.close ht
    | succ n ih => intro k m h; exact ih _ _ (h.put _ (ncT (j := 3) ht (by omega)))
  unfold x_clear
  exact key _ _ _ ((((((h.put _ (ncS ht)).put _ (ncS ht)).put _ (ncS ht)).put _ (ncS ht)).put _ (ncS ht)).put _ (ncS ht))
theorem CG.addDeed {x y : Int32} (h : CG m b) (ht : t < 4) : CG (x_addDeed m b t x y) b := by
  unfold x_addDeed
  exact cndi (fun q : Nat → Nat → Int32 => CG q b) h (((h.put _ (ncT (j := 1) ht (by omega))).put _ (ncT (j := 2) ht (by omega))).put _ (ncS ht))
theorem KX.set2 {n : Nat} (h : KX m b P) (ht : t < 4) (hn : n ≤ 24) : KX (zm2 m (b + 10 + 7 * t) 2 (Int32.ofNat n)) b P := by
  refine ⟨fun u hu => ?_, h.2.1.of (zx_ne _ _ _ (by omega)), fun u hu hp => ?_⟩
  · by_cases e : u = t
    · subst e
      obtain ⟨a1, a2, a3, a4, a5⟩ := h.1 u hu
      refine ⟨okm.is (zx_at _ _ _ _) hn (by omega), a2.of (zx_nk _ _ (by omega)), a3.of (zx_ne _ _ _ (by omega)), by rw [zx_ne _ _ _ (by omega)]; exact a4, fun p hp => ?_⟩
      rw [mv_of (m := m) (zx_ne _ _ _ (by omega)), mv_of (m := m) (zx_ne _ _ _ (by omega))]
      exact ⟨(a5 p hp).1.of (zx_ne _ _ _ (by omega)), (a5 p hp).2.1.of (zx_ne _ _ _ (by omega)), (a5 p hp).2.2⟩
    · exact (h.1 u hu).of (zx_ne _ _ _ (by omega)) ((h.1 u hu).2.1.of (zx_ne _ _ _ (by omega))) ((h.1 u hu).2.2.1.of (zx_ne _ _ _ (by omega))) (by rw [zx_ne _ _ _ (by omega)]; exact (h.1 u hu).2.2.2.1) (fun p => zx_ne _ _ _ (by omega)) (fun p => zx_ne _ _ _ (by omega))
  · rw [mv_of (m := m) (zx_o _ _ (by omega))]
    exact h.2.2 u hu hp
theorem KX.deed {q K n : Nat} (h : KX m b P) (ht : t < 4) (hK : K ≤ 7) (hn : n ≤ 999) (h1 : K ≤ 1 → n ≤ 3) (h3 : K ≤ 3 → n ≤ 31) : KX (zm2 (zm2 m (b + 11 + 7 * t) q (Int32.ofNat K)) (b + 12 + 7 * t) q (Int32.ofNat n)) b P := by
  refine ⟨fun u hu => ?_, h.2.1.of (by rw [zx_ne _ _ _ (by omega), zx_ne _ _ _ (by omega)]), fun u hu hp => ?_⟩
  · obtain ⟨a1, a2, a3, a4, a5⟩ := h.1 u hu
    refine ⟨a1.of (by rw [zx_ne _ _ _ (by omega), zx_ne _ _ _ (by omega)]), a2.of (by rw [zx_ne _ _ _ (by omega), zx_ne _ _ _ (by omega)]), a3.of (by rw [zx_ne _ _ _ (by omega), zx_ne _ _ _ (by omega)]), by rw [zx_ne _ _ _ (by omega), zx_ne _ _ _ (by omega)]; exact a4, fun p hp => ?_⟩
    by_cases e : u = t ∧ p = q
    · obtain ⟨rfl, rfl⟩ := e
      have eK : zm2 (zm2 m (b + 11 + 7 * u) p (Int32.ofNat K)) (b + 12 + 7 * u) p (Int32.ofNat n) (b + 11 + 7 * u) p = Int32.ofNat K := by rw [zx_ne _ _ _ (by omega), zx_at]
      have eN : zm2 (zm2 m (b + 11 + 7 * u) p (Int32.ofNat K)) (b + 12 + 7 * u) p (Int32.ofNat n) (b + 12 + 7 * u) p = Int32.ofNat n := zx_at _ _ _ _
      refine ⟨okm.is eK hK (by omega), okm.is eN hn (by omega), ?_⟩
      unfold mv
      rw [eK, eN, nv_on (by omega), nv_on (by omega)]
      exact ⟨h1, h3⟩
    · have eK : zm2 (zm2 m (b + 11 + 7 * t) q (Int32.ofNat K)) (b + 12 + 7 * t) q (Int32.ofNat n) (b + 11 + 7 * u) p = m (b + 11 + 7 * u) p := by rw [zx_ne _ _ _ (by omega), zx_o _ _ (by omega)]
      have eN : zm2 (zm2 m (b + 11 + 7 * t) q (Int32.ofNat K)) (b + 12 + 7 * t) q (Int32.ofNat n) (b + 12 + 7 * u) p = m (b + 12 + 7 * u) p := by rw [zx_o _ _ (by omega), zx_ne _ _ _ (by omega)]
      rw [mv_of eK, mv_of eN]
      exact ⟨(a5 p hp).1.of eK, (a5 p hp).2.1.of eN, (a5 p hp).2.2⟩
  · rw [mv_of (m := m) (by rw [zx_ne _ _ _ (by omega), zx_ne _ _ _ (by omega)])]
    exact h.2.2 u hu hp
theorem KX.addDeed {K n : Nat} (h : KX m b P) (ht : t < 4) (hK : K ≤ 7) (hn : n ≤ 999) (h1 : K ≤ 1 → n ≤ 3) (h3 : K ≤ 3 → n ≤ 31) : KX (x_addDeed m b t (Int32.ofNat K) (Int32.ofNat n)) b P := by
  unfold x_addDeed
  refine cnd4 (fun q : Nat → Nat → Int32 => KX q b P) (fun _ => h) (fun hg => ?_)
  have := (h.1 t ht).1.2
  have := tge_f (by omega) (by omega) hg
  exact (h.deed ht hK hn h1 h3).set2 ht (by omega)
theorem KX.clear (h : KX m b P) (ht : t < 4) : KX (x_clear m b t) b P := by
  have key : ∀ n k (m : Nat → Nat → Int32), KX m b P → KX (xl_clear b t n k m) b P := by
    intro n
    induction n with
    | zero => intro k m h; exact h.close ht
    | succ n ih => intro k m h; exact ih _ _ (h.put _ (ndF ht))
  unfold x_clear
  exact key _ _ _ ((((((h.set2 ht (by omega)).at (n := 0) ht (by omega) (fun _ => by omega)).put _ (ndS ht (by omega) (by omega))).put _ (ndS ht (by omega) (by omega))).put _ (ndS ht (by omega) (by omega))).put _ (ndS ht (by omega) (by omega)))
end ZCX
/-- the draft, and the Reader's text -/
def YC (T : Nat → Int32) (e : Nat) (X : Int32 × (Nat → Nat → Int32) × Nat × Nat) : Prop := YB T e X ∧ CG X.2.1 43 ∧ KX X.2.1 43 P0
theorem YC.mk {T : Nat → Int32} {e : Nat} {v : Int32} {m : Nat → Nat → Int32} {p b : Nat} (h0 : XR m T e) (h1 : p ≤ e) (h2 : b ≤ p) (h3 : v = 0 ∨ v = 1) (h4 : CG m 43) (h5 : KX m 43 P0) : YC T e (v, m, p, b) := ⟨YB.mk h0 h1 h2 h3, h4, h5⟩
theorem YC.num {T : Nat → Int32} {e p : Nat} {lo hi v : Int32} {m : Nat → Nat → Int32} (h0 : XR m T e) (hp : p ≤ e) (hv : v = 0 ∨ v = 1) (h4 : CG m 43) (h5 : KX m 43 P0) : YC T e (v, m, (y_readNumber T e p lo hi).2.1, (y_readNumber T e p lo hi).2.2) := ⟨YB.num h0 hp hv, h4, h5⟩
section ZYC
variable {T : Nat → Int32} {e : Nat} {m : Nat → Nat → Int32} {p b t : Nat}
theorem readTerm_YC (hG : XR m T e) (hp : p ≤ e) (hb : b ≤ p) (hc : CG m 43) (hk : KX m 43 P0) : YC T e (y_readTerm T e m p b t) := by
  have a : ∀ lo hi x, YC T e (Int32.ofNat 1, zm2 m (43 + 3) t x, (y_readNumber T e p lo hi).2.1, (y_readNumber T e p lo hi).2.2) := fun lo hi x => YC.num (hG.put _ (by omega)) hp (Or.inr rfl) (hc.put _ (ncX (by omega))) (hk.put _ (ndX (by omega) (by omega)))
  have c : ∀ lo hi, YC T e (Int32.ofNat 0, m, (y_readNumber T e p lo hi).2.1, (y_readNumber T e p lo hi).2.2) := fun lo hi => YC.num hG hp (Or.inl rfl) hc hk
  unfold y_readTerm
  exact cnd4 (YC T e) (fun _ => cnd4 (YC T e) (fun _ => a _ _ _) (fun _ => c _ _)) (fun _ => cnd4 (YC T e) (fun _ => cnd4 (YC T e) (fun _ => a _ _ _) (fun _ => c _ _)) (fun _ => YC.mk hG hp hb (Or.inl rfl) hc hk))
theorem readTrustL_YC {v : Int32} : ∀ (n l : Nat) (m : Nat → Nat → Int32), l + n = 4 → XR m T e ∧ CG m 43 ∧ KX m 43 P0 → (XR (yl_readTrust v n l m).2 T e ∧ CG (yl_readTrust v n l m).2 43 ∧ KX (yl_readTrust v n l m).2 43 P0) ∧ (yl_readTrust v n l m).1 = 1 := by
  intro n
  induction n with
  | zero => intro l m _ h; exact ⟨h, rfl⟩
  | succ n ih => intro l m hk h; exact ih _ _ (by omega) ⟨h.1.put _ (by omega), h.2.1.put _ (ncL (by omega) (by omega)), h.2.2.put _ (ndL (by omega))⟩
theorem readTrust_YC (hG : XR m T e) (hp : p ≤ e) (hc : CG m 43) (hk : KX m 43 P0) : YC T e (y_readTrust T e m p) := by
  unfold y_readTrust
  refine cnd4 (YC T e) (fun _ => ?_) (fun _ => YC.num hG hp (Or.inl rfl) hc hk)
  have h := readTrustL_YC (T := T) (e := e) (v := (y_readNumber T e p (Int32.ofNat 0) (Int32.ofNat 15)).1) 4 0 m rfl ⟨hG, hc, hk⟩
  exact YC.num h.1.1 hp (Or.inr h.2) h.1.2.1 h.1.2.2
theorem readWord_YC (hG : XR m T e) (hp : p ≤ e) (hc : CG m 43) (hk : KX m 43 P0) : YC T e (y_readWord T e m p) := by
  have h1 := (ynum_le (T := T) (lo := Int32.ofNat 0) (hi := Int32.ofNat 31) hG.2.2 hp).2.1
  unfold y_readWord
  exact cnd4 (YC T e) (fun _ => cnd4 (YC T e) (fun _ => YC.num ((hG.put _ (by omega)).put _ (by omega)) h1 (Or.inr rfl) ((hc.put _ (ncX (by omega))).put _ (ncX (by omega))) ((hk.put _ (ndX (by omega) (by omega))).put _ (ndX (by omega) (by omega)))) (fun _ => YC.num hG h1 (Or.inl rfl) hc hk)) (fun _ => YC.num hG hp (Or.inl rfl) hc hk)
theorem readLock_YC (hG : XR m T e) (hp : p ≤ e) (hc : CG m 43) (hk : KX m 43 P0) : YC T e (y_readLock T e m p) := by
  have h1 := (ynum_le (T := T) (lo := Int32.ofNat 0) (hi := Int32.ofNat 3) hG.2.2 hp).2.1
  have h2 := yname_le (T := T) (s := 1) hG.2.2 h1
  unfold y_readLock
  refine cnd4 (YC T e) (fun _ => YC.num hG hp (Or.inl rfl) hc hk) (fun k1 => cnd4 (YC T e) (fun _ => cnd4 (YC T e) (fun _ => YC.num hG h2.1 (Or.inl rfl) hc hk) (fun k3 => cnd4 (YC T e) (fun _ => ?_) (fun _ => YC.num hG h2.1 (Or.inl rfl) hc hk))) (fun _ => YC.mk hG h2.1 h2.2 (Or.inl rfl) hc hk))
  have g1 := ynum_k (by omega) (by omega) (zeq_f k1)
  have g3 := ynum_k (by omega) (by omega) (zeq_f k3)
  refine YC.num (hG.put _ (by omega)) h2.1 (Or.inr rfl) ?_ (hk.put _ (ndL (by omega)))
  rw [g3.1]
  exact hc.setw (by omega) g3.2.1
/-- what numbers a deed may bear -/
theorem deed_bd : ∀ K, K ≤ 7 → K ≠ 7 → ∃ a c, (zla 2).getD K 0 = Int32.ofNat a ∧ (zla 3).getD K 0 = Int32.ofNat c ∧ a ≤ 9 ∧ c ≤ 999 ∧ (K ≤ 1 → c ≤ 3) ∧ (K ≤ 3 → c ≤ 31) := by
  intro K hK h7
  match K, hK, h7 with
  | 0, _, _ => exact ⟨0, 3, rfl, rfl, by omega, by omega, by omega, by omega⟩
  | 1, _, _ => exact ⟨0, 3, rfl, rfl, by omega, by omega, by omega, by omega⟩
  | 2, _, _ => exact ⟨0, 31, rfl, rfl, by omega, by omega, by omega, by omega⟩
  | 3, _, _ => exact ⟨0, 31, rfl, rfl, by omega, by omega, by omega, by omega⟩
  | 4, _, _ => exact ⟨0, 999, rfl, rfl, by omega, by omega, by omega, by omega⟩
  | 5, _, _ => exact ⟨0, 999, rfl, rfl, by omega, by omega, by omega, by omega⟩
  | 6, _, _ => exact ⟨1, 9, rfl, rfl, by omega, by omega, by omega, by omega⟩
  | 7, _, h => exact absurd rfl h
  | k + 8, h, _ => exact absurd h (by omega)
theorem readDeed_YC (hG : XR m T e) (hp : p ≤ e) (ht : t < 4) (hc : CG m 43) (hk : KX m 43 P0) : YC T e (y_readDeed T e m p t) := by
  have h1 := yname_le (T := T) (s := 2) hG.2.2 hp
  have hx : ∀ x y, XR (x_addDeed m 43 t x y) T e := fun x y => hG.same (fun i l a1 a2 => addDeed_ne (by omega))
  unfold y_readDeed
  refine cnd4 (YC T e) (fun _ => YC.mk hG h1.1 h1.2 (Or.inl rfl) hc hk) (fun k1 => cnd4 (YC T e) (fun k2 => ?_) (fun _ => YC.mk hG h1.1 h1.2 (Or.inl rfl) hc hk))
  have hK := (i7_of (by omega) k1 k2).2
  revert hK
  generalize ((y_readName T e p 2).1).toNatClampNeg = K
  intro hK
  refine cnd4 (YC T e) (fun k7 => cnd4 (YC T e) (fun kn => ?_) (fun _ => YC.num hG h1.1 (Or.inl rfl) hc hk)) (fun k7 => ?_)
  · have h7 := tne_t k7
    obtain ⟨a, c, e1, e2, e3, e4, e5, e6⟩ := deed_bd K hK h7
    rw [e1, e2] at kn ⊢
    have g := ynum_k (by omega) (by omega) (zne_t kn)
    refine YC.num (hx _ _) h1.1 (Or.inr rfl) (hc.addDeed ht) ?_
    rw [g.1]
    exact hk.addDeed ht hK (by omega) (fun q => by have := e5 q; omega) (fun q => by have := e6 q; omega)
  · have h7 : K = 7 := tne_f (by omega) (by omega) k7
    subst h7
    exact YC.mk (hx _ _) h1.1 h1.2 (Or.inr rfl) (hc.addDeed ht) (hk.addDeed (n := 0) ht (by omega) (by omega) (by omega) (by omega))
theorem prog_YC (ht : t < 4) : ∀ (n k : Nat) (m : Nat → Nat → Int32) (p b : Nat), XR m T e → p ≤ e → CG m 43 → KX m 43 P0 → YC T e (yl_prog T e t n k m p b) := by
  intro n
  induction n with
  | zero =>
    intro k m p b hG hp hc hk
    have h := lkB_le (T := T) hG.2.2 hp
    exact YC.mk hG h.2 (Nat.le_refl _) (Or.inl rfl) hc hk
  | succ n ih =>
    intro k m p b hG hp hc hk
    obtain ⟨⟨r1, r2, r3, r4⟩, r5, r6⟩ := readDeed_YC (t := t) hG hp ht hc hk
    have h := lkB_le (T := T) hG.2.2 r2
    have h2 := yskip_le (T := T) (c := 44) hG.2.2 h.2
    unfold yl_prog
    exact cnd4 (YC T e) (fun _ => cnd4 (YC T e) (fun _ => ih _ _ _ _ r1 h2.2 r5 r6) (fun _ => YC.mk r1 h2.2 h2.1 (Or.inr rfl) r5 r6)) (fun _ => YC.mk r1 r2 r3 (Or.inl rfl) r5 r6)
theorem readProgram_YC (hG : XR m T e) (hp : p ≤ e) (hb : b ≤ p) (hc : CG m 43) (hk : KX m 43 P0) : YC T e (y_readProgram T e m p b) := by
  unfold y_readProgram
  refine cnd4 (YC T e) (fun h4 => ?_) (fun _ => YC.mk hG hp hb (Or.inl rfl) hc hk)
  have h5 := hc.c4
  have hlt := zlt_t4 (by omega) (by omega) h4
  exact prog_YC hlt _ _ _ _ _ ((hG.same (fun i l a1 a2 => clear_ne (by omega))).put _ (by omega)) hp ((hc.clear hlt).setc (by omega)) ((hk.clear hlt).put _ (ndM (by omega)))
end ZYC
