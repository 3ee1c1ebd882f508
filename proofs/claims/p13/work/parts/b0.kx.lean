/-! the class's deeds and places are in order, and stay so -/
noncomputable def DT (m : Nat → Nat → Int32) (b t : Nat) : Prop := okm m (b + 10 + 7 * t) 2 24 ∧ okm m (b + 10 + 7 * t) 3 24 ∧ okm m (b + 14 + 7 * t) 1 23 ∧ (m (b + 14 + 7 * t) 0 = 0 ∨ m (b + 14 + 7 * t) 0 = 1) ∧ ∀ p, p < 24 → okm m (b + 11 + 7 * t) p 7 ∧ okm m (b + 12 + 7 * t) p 999 ∧ (mv m (b + 11 + 7 * t) p ≤ 1 → mv m (b + 12 + 7 * t) p ≤ 3) ∧ (mv m (b + 11 + 7 * t) p ≤ 3 → mv m (b + 12 + 7 * t) p ≤ 31)
noncomputable def KX (m : Nat → Nat → Int32) (b : Nat) (P : Nat → Prop) : Prop := (∀ t, t < 4 → DT m b t) ∧ LTC m b ∧ ∀ t, t < 4 → P t → mv m (b + 10 + 7 * t) 3 < 24
noncomputable def DCc (b a k : Nat) : Prop := (a = b ∧ k = 8) ∨ ∃ t, t < 4 ∧ ((a = b + 10 + 7 * t ∧ (k = 2 ∨ k = 3)) ∨ (a = b + 14 + 7 * t ∧ (k = 0 ∨ k = 1)) ∨ a = b + 11 + 7 * t ∨ a = b + 12 + 7 * t)
theorem mv_of {m m' : Nat → Nat → Int32} {a k : Nat} (e : m' a k = m a k) : mv m' a k = mv m a k := by
  unfold mv
  rw [e]
theorem DT.of {m m' : Nat → Nat → Int32} {b t : Nat} (h : DT m b t) (e2 : m' (b + 10 + 7 * t) 2 = m (b + 10 + 7 * t) 2) (e3 : okm m' (b + 10 + 7 * t) 3 24) (e1 : okm m' (b + 14 + 7 * t) 1 23) (e0 : m' (b + 14 + 7 * t) 0 = 0 ∨ m' (b + 14 + 7 * t) 0 = 1) (eK : ∀ p, m' (b + 11 + 7 * t) p = m (b + 11 + 7 * t) p) (eN : ∀ p, m' (b + 12 + 7 * t) p = m (b + 12 + 7 * t) p) : DT m' b t := by
  unfold DT
  refine ⟨h.1.of e2, e3, e1, e0, fun p hp => ?_⟩
  rw [mv_of (eK p), mv_of (eN p)]
  obtain ⟨a1, a2, a3⟩ := h.2.2.2.2 p hp
  exact ⟨a1.of (eK p), a2.of (eN p), a3⟩
theorem DT.same {m m' : Nat → Nat → Int32} {b t : Nat} (h : DT m b t) (ht : t < 4) (e : ∀ a k, DCc b a k → m' a k = m a k) : DT m' b t := by
  have es : ∀ k, k = 2 ∨ k = 3 → m' (b + 10 + 7 * t) k = m (b + 10 + 7 * t) k := fun k hk => e _ _ (Or.inr ⟨t, ht, Or.inl ⟨rfl, hk⟩⟩)
  have eg : ∀ k, k = 0 ∨ k = 1 → m' (b + 14 + 7 * t) k = m (b + 14 + 7 * t) k := fun k hk => e _ _ (Or.inr ⟨t, ht, Or.inr (Or.inl ⟨rfl, hk⟩)⟩)
  refine h.of (es 2 (Or.inl rfl)) (h.2.1.of (es 3 (Or.inr rfl))) (h.2.2.1.of (eg 1 (Or.inr rfl))) ?_ (fun p => e _ _ (Or.inr ⟨t, ht, Or.inr (Or.inr (Or.inl rfl))⟩)) (fun p => e _ _ (Or.inr ⟨t, ht, Or.inr (Or.inr (Or.inr rfl))⟩))
  rw [eg 0 (Or.inl rfl)]
  exact h.2.2.2.1
theorem LTC.of {m m' : Nat → Nat → Int32} {b : Nat} (h : LTC m b) (e : m' b 8 = m b 8) : LTC m' b := by
  unfold LTC ltc at *
  rw [e]
  exact h
section ZKX
variable {m m' : Nat → Nat → Int32} {b t l w : Nat} {P : Nat → Prop}
theorem KX.same (h : KX m b P) (e : ∀ a k, DCc b a k → m' a k = m a k) : KX m' b P := by
  refine ⟨fun t ht => (h.1 t ht).same ht e, h.2.1.of (e _ _ (Or.inl ⟨rfl, rfl⟩)), fun t ht hp => ?_⟩
  have es : ∀ k, k = 2 ∨ k = 3 → m' (b + 10 + 7 * t) k = m (b + 10 + 7 * t) k := fun k hk => e _ _ (Or.inr ⟨t, ht, Or.inl ⟨rfl, hk⟩⟩)
  rw [mv_of (es 3 (Or.inr rfl))]
  exact h.2.2 t ht hp
theorem KX.put {a k : Nat} (h : KX m b P) (x : Int32) (hf : ¬ DCc b a k) : KX (zm2 m a k x) b P := h.same (fun i l hc => zx_o _ _ (fun e => hf (by rw [← e.1, ← e.2]; exact hc)))
theorem KX.mono {Q : Nat → Prop} (h : KX m b P) (hq : ∀ t, t < 4 → Q t → P t) : KX m b Q := ⟨h.1, h.2.1, fun t ht hp => h.2.2 t ht (hq t ht hp)⟩
theorem ndM {k : Nat} (hk : k ≠ 8) : ¬ DCc b b k := by
  rintro (⟨_, _⟩ | ⟨u, _, ⟨_, _⟩ | ⟨_, _⟩ | _ | _⟩) <;> omega
theorem ndS {k : Nat} (ht : t < 4) (h2 : k ≠ 2) (h3 : k ≠ 3) : ¬ DCc b (b + 10 + 7 * t) k := by
  rintro (⟨_, _⟩ | ⟨u, _, ⟨_, _⟩ | ⟨_, _⟩ | _ | _⟩) <;> omega
theorem ndG {k : Nat} (ht : t < 4) (h2 : k ≠ 0) (h3 : k ≠ 1) : ¬ DCc b (b + 14 + 7 * t) k := by
  rintro (⟨_, _⟩ | ⟨u, _, ⟨_, _⟩ | ⟨_, _⟩ | _ | _⟩) <;> omega
theorem ndF {k : Nat} (ht : t < 4) : ¬ DCc b (b + 13 + 7 * t) k := by
  rintro (⟨_, _⟩ | ⟨u, _, ⟨_, _⟩ | ⟨_, _⟩ | _ | _⟩) <;> omega
theorem ndO {k : Nat} (ht : t < 4) : ¬ DCc b (b + 15 + 7 * t) k := by
  rintro (⟨_, _⟩ | ⟨u, _, ⟨_, _⟩ | ⟨_, _⟩ | _ | _⟩) <;> omega
theorem ndV {k : Nat} (ht : t < 4) : ¬ DCc b (b + 16 + 7 * t) k := by
  rintro (⟨_, _⟩ | ⟨u, _, ⟨_, _⟩ | ⟨_, _⟩ | _ | _⟩) <;> omega
theorem ndL {k : Nat} (hl : l < 4) : ¬ DCc b (b + 5 + l) k := by
  rintro (⟨_, _⟩ | ⟨u, _, ⟨_, _⟩ | ⟨_, _⟩ | _ | _⟩) <;> omega
theorem ndX {a k : Nat} (h1 : b < a) (h2 : a < b + 10 ∨ b + 38 ≤ a) : ¬ DCc b a k := by
  rintro (⟨_, _⟩ | ⟨u, _, ⟨_, _⟩ | ⟨_, _⟩ | _ | _⟩) <;> omega
theorem KX.at {u n : Nat} (h : KX m b P) (hu : u < 4) (hn : n ≤ 24) (hp2 : P u → n < 24) : KX (zm2 m (b + 10 + 7 * u) 3 (Int32.ofNat n)) b P := by
  refine ⟨fun t ht => ?_, h.2.1.of (zx_ne _ _ _ (by omega)), fun t ht hp => ?_⟩
  · by_cases e : t = u
    · subst e
      exact (h.1 t ht).of (zx_nk _ _ (by omega)) (okm.is (zx_at _ _ _ _) (by omega) (by omega)) ((h.1 t ht).2.2.1.of (zx_ne _ _ _ (by omega))) (by rw [zx_ne _ _ _ (by omega)]; exact (h.1 t ht).2.2.2.1) (fun p => zx_ne _ _ _ (by omega)) (fun p => zx_ne _ _ _ (by omega))
    · exact (h.1 t ht).of (zx_ne _ _ _ (by omega)) ((h.1 t ht).2.1.of (zx_ne _ _ _ (by omega))) ((h.1 t ht).2.2.1.of (zx_ne _ _ _ (by omega))) (by rw [zx_ne _ _ _ (by omega)]; exact (h.1 t ht).2.2.2.1) (fun p => zx_ne _ _ _ (by omega)) (fun p => zx_ne _ _ _ (by omega))
  · by_cases e : t = u
    · subst e
      unfold mv
      rw [zx_at, nv_on (by omega)]
      exact hp2 hp
    · rw [mv_of (m := m) (zx_ne _ _ _ (by omega))]
      exact h.2.2 t ht hp
theorem KX.g0 {u : Nat} {x : Int32} (h : KX m b P) (hu : u < 4) (hx : x = 0 ∨ x = 1) : KX (zm2 m (b + 14 + 7 * u) 0 x) b P := by
  refine ⟨fun t ht => ?_, h.2.1.of (zx_ne _ _ _ (by omega)), fun t ht hp => ?_⟩
  · refine (h.1 t ht).of (zx_ne _ _ _ (by omega)) ((h.1 t ht).2.1.of (zx_ne _ _ _ (by omega))) ((h.1 t ht).2.2.1.of (zx_o _ _ (by omega))) ?_ (fun p => zx_ne _ _ _ (by omega)) (fun p => zx_ne _ _ _ (by omega))
    by_cases e : t = u
    · subst e; rw [zx_at]; exact hx
    · rw [zx_ne _ _ _ (by omega)]; exact (h.1 t ht).2.2.2.1
  · rw [mv_of (m := m) (zx_ne _ _ _ (by omega))]
    exact h.2.2 t ht hp
theorem KX.g1 {u n : Nat} (h : KX m b P) (hu : u < 4) (hn : n ≤ 23) : KX (zm2 m (b + 14 + 7 * u) 1 (Int32.ofNat n)) b P := by
  refine ⟨fun t ht => ?_, h.2.1.of (zx_ne _ _ _ (by omega)), fun t ht hp => ?_⟩
  · refine (h.1 t ht).of (zx_ne _ _ _ (by omega)) ((h.1 t ht).2.1.of (zx_ne _ _ _ (by omega))) ?_ (by rw [zx_o _ _ (by omega)]; exact (h.1 t ht).2.2.2.1) (fun p => zx_ne _ _ _ (by omega)) (fun p => zx_ne _ _ _ (by omega))
    by_cases e : t = u
    · subst e
      exact okm.is (zx_at _ _ _ _) (by omega) (by omega)
    · exact (h.1 t ht).2.2.1.of (zx_ne _ _ _ (by omega))
  · rw [mv_of (m := m) (zx_ne _ _ _ (by omega))]
    exact h.2.2 t ht hp
theorem KX.lt {u : Nat} (h : KX m b P) (hu : u < 4) : KX (zm2 m b 8 (Int32.ofNat u)) b P := by
  refine ⟨fun t ht => ?_, ?_, fun t ht hp => ?_⟩
  · exact (h.1 t ht).of (zx_ne _ _ _ (by omega)) ((h.1 t ht).2.1.of (zx_ne _ _ _ (by omega))) ((h.1 t ht).2.2.1.of (zx_ne _ _ _ (by omega))) (by rw [zx_ne _ _ _ (by omega)]; exact (h.1 t ht).2.2.2.1) (fun p => zx_ne _ _ _ (by omega)) (fun p => zx_ne _ _ _ (by omega))
  · unfold LTC ltc
    rw [zx_at, ← Int32.ofNat_add, nv_on (by omega)]
    exact ⟨rfl, by omega⟩
  · rw [mv_of (m := m) (zx_ne _ _ _ (by omega))]
    exact h.2.2 t ht hp
theorem KX.logAdd (h : KX m b P) (t u w v : Int32) : KX (x_logAdd m b t u w v) b P := by
  refine h.same (fun a k hc => logAdd_ne ?_ ?_)
  · rintro rfl
    exact ndX (by omega) (by omega) hc
  · rintro rfl
    exact ndX (by omega) (by omega) hc
theorem KX.close (h : KX m b P) (ht : t < 4) : KX (x_close m b t) b P := by
  unfold x_close
  exact ((((h.g0 ht (Or.inl rfl)).put _ (ndG ht (by omega) (by omega))).put _ (ndG ht (by omega) (by omega))).put _ (ndG ht (by omega) (by omega))).put _ (ndG ht (by omega) (by omega))
theorem KX.lose {x : Int32} (h : KX m b P) (hl : l < 4) : KX (x_lose m b l x) b P := by
  unfold x_lose
  exact cndi (fun q : Nat → Nat → Int32 => KX q b P) (h.put _ (ndL hl)) (h.put _ (ndL hl))
theorem KX.gain {x : Int32} (h : KX m b P) (hl : l < 4) : KX (x_gain m b l x) b P := by
  unfold x_gain
  exact cndi (fun q : Nat → Nat → Int32 => KX q b P) (h.put _ (ndL hl)) (h.put _ (ndL hl))
theorem KX.fall {y : Nat} (h : KX m b P) (hc : CG m b) (ht : t < 4) : KX (x_fall m b t y).2 b P := by
  have hl := hc.l4 ht
  have h1 := (h.1 t ht).2.2.1
  have hA : KX (zm2 m (b + 10 + 7 * t) 3 (m (b + 14 + 7 * t) 1)) b P := by
    rw [h1.1]
    exact h.at ht (by have := h1.2; omega) (fun hp => by have := h1.2; omega)
  unfold x_fall
  dsimp only
  refine KX.logAdd ?_ _ _ _ _
  refine KX.close ?_ ht
  refine KX.lose ?_ hl
  exact (((hA.put _ (ndS ht (by omega) (by omega))).put _ (ndS ht (by omega) (by omega))).put _ (ndS ht (by omega) (by omega))).put _ (ndF ht)
theorem KX.gwrite {v x : Int32} (h : KX m b P) (ht : t < 4) : KX (x_gwrite m b t w v x) b P := by
  unfold x_gwrite
  exact ((h.put _ (ndV ht)).put _ (ndG ht (by omega) (by omega))).put _ (ndG ht (by omega) (by omega))
theorem KX.reachC {v x r g o : Int32} (h : KX m b P) (ht : t < 4) : KX (x_reachC m b t w v x r g o).2 b P := by
  unfold x_reachC
  exact cndi (fun q : QM => KX q.2 b P) (cndi (fun q : QM => KX q.2 b P) h (h.put _ (ndX (by omega) (by omega)))) (cndi (fun q : QM => KX q.2 b P) (h.put _ (ndG ht (by omega) (by omega))) (h.gwrite ht))
theorem reachL_kx {n5 : Nat} {v x r g o : Int32} (ht : t < 4) (hn : n5 ≤ 4) : ∀ (n k : Nat) (m : Nat → Nat → Int32), k + n = n5 → CG m b → KX m b P → KX (xl_reachL b t w v x r g o n5 n k m).2 b P := by
  intro n
  induction n with
  | zero => intro k m hk _ h; exact h.reachC ht
  | succ n ih =>
    intro k m hk hc h
    rw [xl_reachL]
    exact cndi (fun q : QM => KX q.2 b P) (ih _ _ (by omega) hc h) (ih _ _ (by omega) (hc.fall (by omega) (by omega)) (h.fall hc (by omega)))
theorem KX.reachB {v x r g : Int32} (h : KX m b P) (hc : CG m b) (ht : t < 4) : KX (x_reachB m b t w v x r g).2 b P := by
  unfold x_reachB
  have a := reachL_kx (P := P) (b := b) (w := w) (v := v) (x := x) (r := r) (g := g) (o := x_holders m b x (Int32.ofNat t) r) ht hc.c4 (mv m b 5) 0 m (by omega) hc h
  have f := h.fall (y := 0) hc ht
  generalize xl_reachL b t w v x r g (x_holders m b x (Int32.ofNat t) r) (mv m b 5) (mv m b 5) 0 m = c at a ⊢
  generalize x_fall m b t 0 = cf at f ⊢
  exact cndi (fun q : QM => KX q.2 b P) a (cndi (fun q : QM => KX q.2 b P) a (cndi (fun q : QM => KX q.2 b P) a f))
theorem KX.reach {v : Int32} (h : KX m b P) (hc : CG m b) (ht : t < 4) : KX (x_reach m b t w v).2 b P := by
  unfold x_reach
  have f := h.fall (y := 1) hc ht
  generalize x_fall m b t 1 = cf at f ⊢
  exact cndi (fun q : QM => KX q.2 b P) (cndi (fun q : QM => KX q.2 b P) (h.reachB hc ht) (h.reachB hc ht)) (cndi (fun q : QM => KX q.2 b P) (h.reachB hc ht) (cndi (fun q : QM => KX q.2 b P) (h.reachB hc ht) f))
theorem KX.leaveOut {l : Int32} (h : KX m b P) (ht : t < 4) : KX (x_leaveOut m b t l) b P := by
  unfold x_leaveOut
  exact cndi (fun q : Nat → Nat → Int32 => KX q b P) h ((h.put _ (ndO ht)).put _ (ndG ht (by omega) (by omega)))
theorem KX.begin {y z : Int32} (h : KX m b P) (ht : t < 4) (hp : P t) : KX (x_begin m b t (m (b + 10 + 7 * t) 3) y z) b P := by
  have h3 := (h.1 t ht).2.1
  have hl := h.2.2 t ht hp
  unfold x_begin
  have h0 := h.g0 ht (Or.inr rfl)
  have h1 : KX (zm2 (zm2 m (b + 14 + 7 * t) 0 (Int32.ofNat 1)) (b + 14 + 7 * t) 1 (m (b + 10 + 7 * t) 3)) b P := by
    rw [h3.1]
    exact h0.g1 ht (by omega)
  exact (h1.put _ (ndG ht (by omega) (by omega))).put _ (ndG ht (by omega) (by omega))
theorem keepL_kx (ht : t < 4) (hl : l < 4) : ∀ (n k : Nat) (m : Nat → Nat → Int32), KX m b P → KX (xl_keep b t l n k m) b P := by
  intro n
  induction n with
  | zero =>
    intro k m h
    rw [xl_keep]
    exact KX.logAdd (((((h.close ht).put _ (ndS ht (by omega) (by omega))).put _ (ndS ht (by omega) (by omega))).gain hl).put _ (ndL hl)) _ _ _ _
  | succ n ih =>
    intro k m h
    rw [xl_keep]
    exact ih _ _ (h.put _ (ndX (by omega) (by omega)))
theorem KX.keep (h : KX m b P) (ht : t < 4) (hl : l < 4) : KX (x_keep m b t l) b P := keepL_kx ht hl _ _ _ h
theorem KX.takePB (h : KX m b P) (hc : CG m b) (ht : t < 4) (hp : P t) (hl : l < 4) : KX (x_takePB m b t l).2 b P := by
  unfold x_takePB
  have ar := h.reach (w := mv m (b + 5 + l) 0) (v := Int32.ofNat 1) hc ht
  have hb : ∀ y z, KX (x_begin m b t (m (b + 10 + 7 * t) 3) y z) b P := fun y z => h.begin ht hp
  generalize x_reach m b t (mv m (b + 5 + l) 0) (Int32.ofNat 1) = c at ar ⊢
  generalize m (b + 10 + 7 * t) 3 = A at hb ⊢
  have a1 : KX (zm2 (zm2 c.2 (b + 10 + 7 * t) 5 (Int32.ofNat 0)) (b + 5 + l) 2 (zm2 c.2 (b + 10 + 7 * t) 5 (Int32.ofNat 0) (b + 5 + l) 2 + Int32.ofNat 1)) b P := (ar.put _ (ndS ht (by omega) (by omega))).put _ (ndL hl)
  generalize zm2 (zm2 c.2 (b + 10 + 7 * t) 5 (Int32.ofNat 0)) (b + 5 + l) 2 (zm2 c.2 (b + 10 + 7 * t) 5 (Int32.ofNat 0) (b + 5 + l) 2 + Int32.ofNat 1) = m1 at a1 ⊢
  have a2 : ∀ x y z u : Int32, KX (x_logAdd m1 b x y z u) b P := fun x y z u => a1.logAdd _ _ _ _
  have a3 : ∀ x y z u w : Int32, KX (x_logAdd (x_gain m1 b l w) b x y z u) b P := fun x y z u w => (a1.gain hl).logAdd _ _ _ _
  have a4 : ∀ y z u v p q r : Int32, KX (x_logAdd (zm2 (x_leaveOut (x_begin m b t A y z) b t (Int32.ofNat l)) (b + 14 + 7 * t) 6 u) b v p q r) b P := fun y z u v p q r => KX.logAdd (((hb y z).leaveOut ht).put _ (ndG ht (by omega) (by omega))) _ _ _ _
  exact cndi (fun q : QM => KX q.2 b P) (cndi (fun q : QM => KX q.2 b P) (cndi (fun q : QM => KX q.2 b P) (a2 _ _ _ _) (a3 _ _ _ _ _)) (cndi (fun q : QM => KX q.2 b P) (cndi (fun q : QM => KX q.2 b P) (a2 _ _ _ _) (a3 _ _ _ _ _)) (a4 _ _ _ _ _ _ _))) h
theorem KX.takePlainly (h : KX m b P) (hc : CG m b) (ht : t < 4) (hp : P t) (hl : l < 4) : KX (x_takePlainly m b t l).2 b P := (h.reach hc ht).takePB (hc.reach ht) ht hp hl
theorem KX.takeGB (h : KX m b P) (hc : CG m b) (ht : t < 4) : KX (x_takeGB m b t l w).2 b P := by
  unfold x_takeGB
  have ar := h.reach (w := w) (v := Int32.ofNat 1) hc ht
  have f4 := h.fall (y := 4) hc ht
  have f2 := h.fall (y := 2) hc ht
  generalize x_reach m b t w (Int32.ofNat 1) = c at ar ⊢
  generalize x_fall m b t 4 = c4 at f4 ⊢
  generalize x_fall m b t 2 = c2 at f2 ⊢
  exact cndi (fun q : QM => KX q.2 b P) (cndi (fun q : QM => KX q.2 b P) (cndi (fun q : QM => KX q.2 b P) ar (h.leaveOut ht)) f4) f2
theorem KX.takeGuessing (h : KX m b P) (hc : CG m b) (ht : t < 4) : KX (x_takeGuessing m b t l).2 b P := by
  unfold x_takeGuessing
  have ar := h.reach (w := mv m (b + 5 + l) 0) (v := -1) hc ht
  have cr := hc.reach (w := mv m (b + 5 + l) 0) (v := -1) ht
  generalize x_reach m b t (mv m (b + 5 + l) 0) (-1) = c at ar cr ⊢
  exact cndi (fun q : QM => KX q.2 b P) (ar.takeGB cr ht) ar
theorem KX.getWord (h : KX m b P) (hc : CG m b) (ht : t < 4) : KX (x_getWord m b t w).2 b P := by
  unfold x_getWord
  have ar := h.reach (w := w) (v := -1) hc ht
  generalize x_reach m b t w (-1) = c at ar ⊢
  exact cndi (fun q : QM => KX q.2 b P) ar (ar.put _ (ndS ht (by omega) (by omega)))
theorem KX.dropLock (h : KX m b P) (hc : CG m b) (ht : t < 4) (hl : l < 4) : KX (x_dropLock m b t l).2 b P := by
  unfold x_dropLock
  have ar := h.reach (w := mv m (b + 5 + l) 0) (v := Int32.ofNat 0) hc ht
  have f2 := h.fall (y := 2) hc ht
  have hs : ∀ x, KX (zm2 m (b + 14 + 7 * t) 5 x) b P := fun x => h.put _ (ndG ht (by omega) (by omega))
  generalize x_reach m b t (mv m (b + 5 + l) 0) (Int32.ofNat 0) = c at ar ⊢
  generalize x_fall m b t 2 = c2 at f2 ⊢
  have al : ∀ x y z u : Int32, KX (x_logAdd c.2 b x y z u) b P := fun x y z u => ar.logAdd _ _ _ _
  exact cndi (fun q : QM => KX q.2 b P) (cndi (fun q : QM => KX q.2 b P) ar (cndi (fun q : QM => KX q.2 b P) ar (al _ _ _ _))) (cndi (fun q : QM => KX q.2 b P) (cndi (fun q : QM => KX q.2 b P) ar (cndi (fun q : QM => KX q.2 b P) ar (al _ _ _ _))) (cndi (fun q : QM => KX q.2 b P) (cndi (fun q : QM => KX q.2 b P) (hs _) ((hs _).keep ht hl)) f2))
theorem KX.goOnWorking {n : Int32} (h : KX m b P) (ht : t < 4) : KX (x_goOnWorking m b t n).2 b P := by
  unfold x_goOnWorking
  exact cndi (fun q : QM => KX q.2 b P) (h.put _ (ndS ht (by omega) (by omega))) (h.put _ (ndS ht (by omega) (by omega)))
theorem KX.putOut (h : KX m b P) (hc : CG m b) (ht : t < 4) : KX (x_putOut m b t).2 b P := by
  unfold x_putOut
  have f3 := h.fall (y := 3) hc ht
  generalize x_fall m b t 3 = c3 at f3 ⊢
  exact cndi (fun q : QM => KX q.2 b P) (cndi (fun q : QM => KX q.2 b P) (h.logAdd _ _ _ _) (KX.logAdd (((h.put _ (ndX (by omega) (by omega))).put _ (ndX (by omega) (by omega))).put _ (ndM (by omega))) _ _ _ _)) f3
noncomputable def P0 : Nat → Prop := fun _ => False
theorem KX.moveOn (h : KX m b P) (hc : CG m b) (ht : t < 4) (hp : P t) : KX (x_moveOn m b t).2 b P0 := by
  unfold x_moveOn
  have h3 := (h.1 t ht).2.1
  have hl := h.2.2 t ht hp
  have h0 : KX m b P0 := h.mono (fun _ _ q => absurd q id)
  have c1 : CG (zm2 (zm2 m (b + 10 + 7 * t) 3 (m (b + 10 + 7 * t) 3 + Int32.ofNat 1)) (b + 10 + 7 * t) 7 (Int32.ofNat 0)) b := (hc.put _ (ncS ht)).put _ (ncS ht)
  have h1 : KX (zm2 (zm2 m (b + 10 + 7 * t) 3 (m (b + 10 + 7 * t) 3 + Int32.ofNat 1)) (b + 10 + 7 * t) 7 (Int32.ofNat 0)) b P0 := by
    refine KX.put ?_ _ (ndS ht (by omega) (by omega))
    rw [h3.1, ← Int32.ofNat_add]
    exact h0.at ht (by omega) (fun q => absurd q id)
  generalize zm2 (zm2 m (b + 10 + 7 * t) 3 (m (b + 10 + 7 * t) 3 + Int32.ofNat 1)) (b + 10 + 7 * t) 7 (Int32.ofNat 0) = m1 at h1 c1 ⊢
  exact cndi (fun q : QM => KX q.2 b P0) (cndi (fun q : QM => KX q.2 b P0) (h1.logAdd _ _ _ _) (h1.fall c1 ht)) h1
theorem KX.stepE {r : Int32} (h : KX m b P) (hc : CG m b) (ht : t < 4) (hp : P t) : KX (x_stepE m b t r).2 b P0 := by
  unfold x_stepE
  have a := h.moveOn hc ht hp
  have h0 : KX m b P0 := h.mono (fun _ _ q => absurd q id)
  generalize x_moveOn m b t = c at a ⊢
  exact cndi (fun q : QM => KX q.2 b P0) ((h0.put _ (ndM (by omega))).lt ht) ((a.put _ (ndM (by omega))).lt ht)
end ZKX
/-- a step of the class, by the kind of its deed -/
noncomputable def x_takeStep (m : Nat → Nat → Int32) (b t : Nat) : Int32 × (Nat → Nat → Int32) := match mv m (b + 11 + 7 * t) (mv m (b + 10 + 7 * t) 3) with
  | 0 => x_takeStep0 m b t
  | 1 => x_takeStep1 m b t
  | 2 => x_takeStep2 m b t
  | 3 => x_takeStep3 m b t
  | 4 => x_takeStep4 m b t
  | 5 => x_takeStep5 m b t
  | 6 => x_takeStep6 m b t
  | _ => x_takeStep7 m b t
theorem xc_takeStep {σ : Nat → Nat × (Nat → Int32)} {yy : (Nat → Nat → Int64) × Bool × Nat × Nat} {m : Nat → Nat → Int32} {b t : Nat} (hb : BB b) (hc : CG m b) (h : KX m b (fun u => u = t)) (ht : t < 4) : zF σ 5 611 [.ref b, .int (Int32.ofNat t)] (zS1, m, yy) (.inl (some (.int (x_takeStep m b t).1))) (zS1, (x_takeStep m b t).2, yy) ∧ KX (x_takeStep m b t).2 b P0 ∧ CG (x_takeStep m b t).2 b := by
  have hD := h.1 t ht
  have hA := hD.2.1
  have hA24 : mv m (b + 10 + 7 * t) 3 < 24 := h.2.2 t ht rfl
  obtain ⟨k1, k2, k3, k4⟩ := hD.2.2.2.2 _ hA24
  unfold x_takeStep
  generalize hK : mv m (b + 11 + 7 * t) (mv m (b + 10 + 7 * t) 3) = K at k3 k4
  have e := k1.1
  rw [hK] at e
  have hK7 : K ≤ 7 := by rw [← hK]; exact k1.2
  match K, hK7, e, k3, k4 with
  | 0, _, e, k3, _ =>
    have := k3 (by omega)
    refine ⟨(xc_takeStep0 hb hc ht hA.1 hA24 k2.1 e (by omega)).up (by omega), ?_, ?_⟩
    · show KX (x_takeStep0 m b t).2 b P0
      unfold x_takeStep0
      exact cndi (fun q : QM => KX q.2 b P0) ((h.takePlainly hc ht rfl (by omega)).stepE (hc.takePlainly ht (by omega)) ht rfl) ((h.takeGuessing hc ht).stepE (hc.takeGuessing ht (by omega)) ht rfl)
    · show CG (x_takeStep0 m b t).2 b
      unfold x_takeStep0
      exact cndi (fun q : QM => CG q.2 b) ((hc.takePlainly ht (by omega)).stepE ht) ((hc.takeGuessing ht (by omega)).stepE ht)
  | 1, _, e, k3, _ =>
    have := k3 (by omega)
    exact ⟨(xc_takeStep1 hb hc ht hA.1 hA24 k2.1 e (by omega)).up (by omega), (h.dropLock hc ht (by omega)).stepE (hc.dropLock ht (by omega)) ht rfl, (hc.dropLock ht (by omega)).stepE ht⟩
  | 2, _, e, _, k4 =>
    have := k4 (by omega)
    exact ⟨(xc_takeStep2 hb hc ht hA.1 hA24 k2.1 e (by omega)).up (by omega), (h.getWord hc ht).stepE (hc.getWord ht) ht rfl, (hc.getWord ht).stepE ht⟩
  | 3, _, e, _, k4 =>
    have := k4 (by omega)
    exact ⟨(xc_takeStep3 hb hc ht hA.1 hA24 k2.1 e (by omega)).up (by omega), (h.reach hc ht).stepE (hc.reach ht) ht rfl, (hc.reach ht).stepE ht⟩
  | 4, _, e, _, _ =>
    exact ⟨(xc_takeStep4 hb hc ht hA.1 hA24 k2.1 e).up (by omega), (h.put _ (ndS ht (by omega) (by omega))).stepE (hc.put _ (ncS ht)) ht rfl, (hc.put _ (ncS ht)).stepE ht⟩
  | 5, _, e, _, _ =>
    exact ⟨(xc_takeStep5 hb hc ht hA.1 hA24 k2.1 e).up (by omega), (h.put _ (ndS ht (by omega) (by omega))).stepE (hc.put _ (ncS ht)) ht rfl, (hc.put _ (ncS ht)).stepE ht⟩
  | 6, _, e, _, _ =>
    refine ⟨(xc_takeStep6 hb hc ht hA.1 hA24 k2.1 e).up (by omega), (h.goOnWorking ht).stepE ?_ ht rfl, CG.stepE ?_ ht⟩
    · unfold x_goOnWorking
      exact cndi (fun q : QM => CG q.2 b) (hc.put _ (ncS ht)) (hc.put _ (ncS ht))
    · unfold x_goOnWorking
      exact cndi (fun q : QM => CG q.2 b) (hc.put _ (ncS ht)) (hc.put _ (ncS ht))
  | 7, _, e, _, _ =>
    exact ⟨(xc_takeStep7 hb hc ht hA.1 hA24 k2.1 e).up (by omega), (h.putOut hc ht).stepE (hc.putOut ht) ht rfl, (hc.putOut ht).stepE ht⟩
  | k + 8, h8, _, _, _ => exact absurd h8 (by omega)
