/-! the class as a whole is in order, and stays so -/
noncomputable def XI (m : Nat → Nat → Int32) : Prop := (CG m 1 ∧ KX m 1 P0) ∧ (CG m 43 ∧ KX m 43 P0) ∧ (CG m 85 ∧ KX m 85 P0) ∧ okm m 0 5 400 ∧ okm m 128 4 400 ∧ okm m 129 1 400 ∧ ∀ u, u < 4 → okm m 134 u 24
/-- what is not the class's stays -/
noncomputable def FG (m m' : Nat → Nat → Int32) : Prop := ∀ i l, 137 ≤ i ∨ (i = 0 ∧ l = 3) → m' i l = m i l
/-- and the length of what was fed -/
noncomputable def FH (m m' : Nat → Nat → Int32) : Prop := ∀ i l, 137 ≤ i ∨ (i = 0 ∧ (l = 5 ∨ l = 3)) → m' i l = m i l
noncomputable def Al (L : List Nat) (X : Int32 ⊕ Nat) : Bool := match X with
  | .inl _ => true
  | .inr e => L.contains e
/-- what a call of the class comes to -/
noncomputable def XO (L : List Nat) (m : Nat → Nat → Int32) (q : (Int32 ⊕ Nat) × (Nat → Nat → Int32)) : Prop := Al L q.1 = true ∧ XI q.2 ∧ FH m q.2
noncomputable def XV (m : Nat → Nat → Int32) (q : Int32 × (Nat → Nat → Int32)) : Prop := XI q.2 ∧ FH m q.2
section ZXI
variable {m m' m'' : Nat → Nat → Int32} {L : List Nat} {X : Int32 ⊕ Nat} {P : Nat → Nat → Int32}
theorem FH.rf : FH m m := fun _ _ _ => rfl
theorem FH.tr (h : FH m m') (g : FH m' m'') : FH m m'' := fun i l hi => (g i l hi).trans (h i l hi)
theorem FH.put {a k : Nat} {x : Int32} (h : FH m m') (ha : a < 137 ∧ (a ≠ 0 ∨ (k ≠ 5 ∧ k ≠ 3))) : FH m (zm2 m' a k x) := fun i l hi => (zx_o _ _ (by omega)).trans (h i l hi)
theorem FH.g (h : FH m m') : FG m m' := fun i l hi => h i l (by omega)
theorem FG.rf : FG m m := fun _ _ _ => rfl
theorem FG.tr (h : FG m m') (g : FG m' m'') : FG m m'' := fun i l hi => (g i l hi).trans (h i l hi)
theorem FG.put {a k : Nat} {x : Int32} (h : FG m m') (ha : a < 137 ∧ (a ≠ 0 ∨ k ≠ 3)) : FG m (zm2 m' a k x) := fun i l hi => (zx_o _ _ (by omega)).trans (h i l hi)
theorem FB.h {b : Nat} (h : FB m' b m) (hb : 1 ≤ b ∧ b ≤ 95) : FH m m' := fun i l hi => h i l (by omega)
theorem XO.rf (h : XI m) (a : Al L X = true) : XO L m (X, m) := ⟨a, h, FH.rf⟩
theorem XO.mk (a : Al L X = true) (h : XI m') (f : FH m m') : XO L m (X, m') := ⟨a, h, f⟩
theorem XI.of1 (h : XI m) (hc : CG m' 1) (hk : KX m' 1 P0) (f : FB m' 1 m) : XI m' := ⟨⟨hc, hk⟩, ⟨h.2.1.1.fb f (Or.inr (by omega)), h.2.1.2.fb f (Or.inr (by omega))⟩, ⟨h.2.2.1.1.fb f (Or.inr (by omega)), h.2.2.1.2.fb f (Or.inr (by omega))⟩, h.2.2.2.1.of (f _ _ (by omega)), h.2.2.2.2.1.of (f _ _ (by omega)), h.2.2.2.2.2.1.of (f _ _ (by omega)), fun u hu => (h.2.2.2.2.2.2 u hu).of (f _ _ (by omega))⟩
theorem XI.of43 (h : XI m) (hc : CG m' 43) (hk : KX m' 43 P0) (f : FB m' 43 m) : XI m' := ⟨⟨h.1.1.fb f (Or.inl (by omega)), h.1.2.fb f (Or.inl (by omega))⟩, ⟨hc, hk⟩, ⟨h.2.2.1.1.fb f (Or.inr (by omega)), h.2.2.1.2.fb f (Or.inr (by omega))⟩, h.2.2.2.1.of (f _ _ (by omega)), h.2.2.2.2.1.of (f _ _ (by omega)), h.2.2.2.2.2.1.of (f _ _ (by omega)), fun u hu => (h.2.2.2.2.2.2 u hu).of (f _ _ (by omega))⟩
theorem XI.of85 (h : XI m) (hc : CG m' 85) (hk : KX m' 85 P0) (f : FB m' 85 m) : XI m' := ⟨⟨h.1.1.fb f (Or.inl (by omega)), h.1.2.fb f (Or.inl (by omega))⟩, ⟨h.2.1.1.fb f (Or.inl (by omega)), h.2.1.2.fb f (Or.inl (by omega))⟩, ⟨hc, hk⟩, h.2.2.2.1.of (f _ _ (by omega)), h.2.2.2.2.1.of (f _ _ (by omega)), h.2.2.2.2.2.1.of (f _ _ (by omega)), fun u hu => (h.2.2.2.2.2.2 u hu).of (f _ _ (by omega))⟩
/-- a change outside the machines, its own rows looked after -/
theorem XI.out (h : XI m) (f : ∀ i l, 1 ≤ i → i < 127 → m' i l = m i l) (h0 : okm m' 0 5 400) (h1 : okm m' 128 4 400) (h2 : okm m' 129 1 400) (h3 : ∀ u, u < 4 → okm m' 134 u 24) : XI m' := by
  have g : ∀ b, 1 ≤ b → b ≤ 85 → ∀ i l, CGc b i l → m' i l = m i l := fun b h1 h2 i l hi => f i l (by rcases hi with ⟨e, _⟩ | ⟨e, _⟩ | ⟨t, ht, ⟨e, _⟩ | e⟩ | ⟨l, hl, e, _⟩ <;> omega) (by rcases hi with ⟨e, _⟩ | ⟨e, _⟩ | ⟨t, ht, ⟨e, _⟩ | e⟩ | ⟨l, hl, e, _⟩ <;> omega)
  have d : ∀ b, 1 ≤ b → b ≤ 85 → ∀ i l, DCc b i l → m' i l = m i l := fun b h1 h2 i l hi => f i l (by rcases hi with ⟨e, _⟩ | ⟨t, ht, ⟨e, _⟩ | ⟨e, _⟩ | e | e⟩ <;> omega) (by rcases hi with ⟨e, _⟩ | ⟨t, ht, ⟨e, _⟩ | ⟨e, _⟩ | e | e⟩ <;> omega)
  exact ⟨⟨h.1.1.same (g 1 (by omega) (by omega)), h.1.2.same (d 1 (by omega) (by omega))⟩, ⟨h.2.1.1.same (g 43 (by omega) (by omega)), h.2.1.2.same (d 43 (by omega) (by omega))⟩, ⟨h.2.2.1.1.same (g 85 (by omega) (by omega)), h.2.2.1.2.same (d 85 (by omega) (by omega))⟩, h0, h1, h2, h3⟩
theorem XI.forget {l : Nat} {x : Int32} (h : XI m) : XI (zm2 m 131 l x) := h.out (fun i l h1 h2 => zx_ne _ _ _ (by omega)) (h.2.2.2.1.of (zx_ne _ _ _ (by omega))) (h.2.2.2.2.1.of (zx_ne _ _ _ (by omega))) (h.2.2.2.2.2.1.of (zx_ne _ _ _ (by omega))) (fun u hu => (h.2.2.2.2.2.2 u hu).of (zx_ne _ _ _ (by omega)))
theorem XI.el {l : Nat} {x : Int32} (h : XI m) (hl : l ≠ 5) : XI (zm2 m 0 l x) := h.out (fun i l h1 h2 => zx_ne _ _ _ (by omega)) (h.2.2.2.1.of (zx_nk _ _ (by omega))) (h.2.2.2.2.1.of (zx_ne _ _ _ (by omega))) (h.2.2.2.2.2.1.of (zx_ne _ _ _ (by omega))) (fun u hu => (h.2.2.2.2.2.2 u hu).of (zx_ne _ _ _ (by omega)))
theorem XI.len {n : Nat} (h : XI m) (hn : n ≤ 400) : XI (zm2 m 0 5 (Int32.ofNat n)) := h.out (fun i l h1 h2 => zx_ne _ _ _ (by omega)) (okm.is (zx_at _ _ _ _) hn (by omega)) (h.2.2.2.2.1.of (zx_ne _ _ _ (by omega))) (h.2.2.2.2.2.1.of (zx_ne _ _ _ (by omega))) (fun u hu => (h.2.2.2.2.2.2 u hu).of (zx_ne _ _ _ (by omega)))
theorem step_x {t : Int32} (h : XI m) : XO [0, 4] m (e_step m t) := by
  unfold e_step
  refine cnd4 (XO [0, 4] m) (fun h0 => cnd4 (XO [0, 4] m) (fun _ => XO.rf h rfl) (fun h1 => cnd4 (XO [0, 4] m) (fun _ => ?_) (fun _ => XO.rf h rfl))) (fun _ => XO.rf h rfl)
  have c4 := h.1.1.c4
  have t4 : t.toNatClampNeg < 4 := by have := (xk_1638 h.1.1 h0).2; omega
  have hx := h.forget (l := 8) (x := Int32.ofNat 0)
  have hr : KX (zm2 m 131 8 (Int32.ofNat 0)) 1 (fun u => u = t.toNatClampNeg) := (h.1.2.run t4 (c1ne0 h1)).far (by omega)
  have g := takeStep_kc bb1 hx.1.1 hr t4
  have f : FB (x_takeStep (zm2 m 131 8 (Int32.ofNat 0)) 1 t.toNatClampNeg).2 1 (zm2 m 131 8 (Int32.ofNat 0)) := FB.refl.takeStep hx.1.1 hr t4
  exact XO.mk rfl (hx.of1 g.2 g.1 f) ((FH.rf.put (by omega)).tr (f.h (by omega)))
theorem poke_x {w v : Int32} (h : XI m) : XO [0, 2] m (e_poke m w v) := by
  unfold e_poke
  refine cnd4 (XO [0, 2] m) (fun h0 => cnd4 (XO [0, 2] m) (fun _ => XO.rf h rfl) (fun h1 => cnd4 (XO [0, 2] m) (fun _ => ?_) (fun _ => XO.rf h rfl))) (fun _ => XO.rf h rfl)
  have hx := h.forget (l := 8) (x := Int32.ofNat 0)
  have g := reachX_ok (m := zm2 m 131 8 (Int32.ofNat 0)) (b := 1) (w := w.toNatClampNeg) (v := v) hx.1.1 hx.1.2 FB.refl
  exact XO.mk rfl (hx.of1 g.1 g.2.1 g.2.2) ((FH.rf.put (by omega)).tr (g.2.2.h (by omega)))
theorem image_x (h : XI m) : XI (e_image m) ∧ (∀ i l, 137 ≤ i ∨ (i = 0 ∧ l = 5) → e_image m i l = m i l) ∧ e_image m 0 3 = Int32.ofNat 1 := by
  unfold e_image
  have f : FB (x_copyFrom m 85 1) 85 m := FB.copy (Or.inr (by omega)) h.1.1 FB.refl
  exact ⟨(h.of85 (CG.copy (Or.inr (by omega)) h.2.2.1.1 h.1.1) (KX.copy (Or.inr (by omega)) h.2.2.1.2 h.1.2 h.1.1) f).el (by omega), fun i l hi => (zx_o _ _ (by omega)).trans (f i l (by omega)), zx_at _ _ _ _⟩
theorem back_x (h : XI m) : XV m (e_back m) := by
  unfold e_back
  have f : FB (x_copyFrom m 1 85) 1 m := FB.copy (Or.inl (by omega)) h.2.2.1.1 FB.refl
  exact cnd4 (XV m) (fun _ => ⟨(h.of1 (CG.copy (Or.inl (by omega)) h.1.1 h.2.2.1.1) (KX.copy (Or.inl (by omega)) h.1.2 h.2.2.1.2 h.2.2.1.1) f).forget, (f.h (by omega)).put (by omega)⟩) (fun _ => ⟨h, FH.rf⟩)
noncomputable def GO (P : Nat → Nat → Int32) (q : Int32 × (Nat → Nat → Int32)) : Prop := CG q.2 1 ∧ KX q.2 1 P0 ∧ FB q.2 1 P
theorem goTurnL_o {n0 : Nat} : ∀ (n k : Nat) (m : Nat → Nat → Int32), CG m 1 → KX m 1 P0 → FB m 1 P → GO P (xl_goTurnL n0 n k m) := by
  intro n
  induction n with
  | zero => intro k m hc hk hf; exact ⟨hc, hk, hf⟩
  | succ n ih =>
    intro k m hc hk hf
    rw [xl_goTurnL]
    refine cnd4 (GO P) (fun _ => ⟨hc, hk, hf⟩) (fun _ => cnd4 (GO P) (fun e => ?_) (fun _ => ⟨hc, hk, hf⟩))
    have cn := nt_ok hc (ne1_of e)
    have hr := hk.run cn.2.1 cn.2.2
    have g := takeStep_kc bb1 hc hr cn.2.1
    exact ih _ _ g.2 g.1 (hf.takeStep hc hr cn.2.1)
theorem goDrawL_o {n0 : Nat} : ∀ (n k : Nat) (m : Nat → Nat → Int32), CG m 1 → KX m 1 P0 → FB m 1 P → GO P (xl_goDrawL n0 n k m) := by
  intro n
  induction n with
  | zero => intro k m hc hk hf; exact ⟨hc, hk, hf⟩
  | succ n ih =>
    intro k m hc hk hf
    obtain ⟨d1, d2, d3, d4⟩ := nd_ok hc hk hf
    rw [xl_goDrawL]
    refine cnd4 (GO P) (fun _ => ⟨hc, hk, hf⟩) (fun _ => cnd4 (GO P) (fun e => ?_) (fun _ => ⟨d1, d2, d3⟩))
    have cn := d4 (ne1_of e)
    have hr := d2.run cn.2.1 cn.2.2
    have g := takeStep_kc bb1 d1 hr cn.2.1
    exact ih _ _ g.2 g.1 (d3.takeStep d1 hr cn.2.1)
theorem run_x {n : Int32} (h : XI m) : XO [2] m (e_run m n) := by
  unfold e_run
  refine cnd4 (XO [2] m) (fun _ => ?_) (fun _ => XO.rf h rfl)
  have hx := h.forget (l := 8) (x := Int32.ofNat 0)
  have g := goTurnL_o (n0 := n.toNatClampNeg) n.toNatClampNeg 0 (zm2 m 131 8 (Int32.ofNat 0)) hx.1.1 hx.1.2 FB.refl
  exact XO.mk rfl (hx.of1 g.1 g.2.1 g.2.2) ((FH.rf.put (by omega)).tr (g.2.2.h (by omega)))
theorem chance_x {n : Int32} (h : XI m) : XO [2] m (e_chance m n) := by
  unfold e_chance
  refine cnd4 (XO [2] m) (fun _ => ?_) (fun _ => XO.rf h rfl)
  have hx := h.forget (l := 8) (x := Int32.ofNat 0)
  have g := goDrawL_o (n0 := n.toNatClampNeg) n.toNatClampNeg 0 (zm2 m 131 8 (Int32.ofNat 0)) hx.1.1 hx.1.2 FB.refl
  exact XO.mk rfl (hx.of1 g.1 g.2.1 g.2.2) ((FH.rf.put (by omega)).tr (g.2.2.h (by omega)))
theorem due_x {t : Int32} (h : XI m) : XO [0] m (e_due m t) := by
  unfold e_due
  refine cnd4 (XO [0] m) (fun _ => ?_) (fun _ => XO.rf h rfl)
  have g := taT_ok (t := t.toNatClampNeg) (x := m (1 + 3) 4) (q := Int32.ofNat 400) h.1.1 h.1.2 h.2.1.1 h.2.1.2 (by decide)
  exact XO.mk rfl (h.of43 g.1 g.2.1 g.2.2.1) (g.2.2.1.h (by omega))
theorem plain_x (h : XI m) : XV m (e_plain m) := by
  have g := taX_ok (x := Int32.ofNat 16) (q := Int32.ofNat 400) h.1.1 h.1.2 h.2.1.1 h.2.1.2 (by decide)
  unfold e_plain
  generalize e_taX m (Int32.ofNat 16) (Int32.ofNat 400) = Y at g ⊢
  exact ⟨h.of43 g.1 g.2.1 g.2.2.1, g.2.2.1.h (by omega)⟩
theorem quickL_x {f : Int32} : ∀ (n : Nat) (a s : Int32) (k : Nat) (m : Nat → Nat → Int32), XI m → SQ s → XV m (xl_quickL f n a s k m) := by
  intro n
  induction n with
  | zero =>
    intro a s k m h hs
    exact cndi (XV m) (cndi (XV m) ⟨h, FH.rf⟩ ⟨h, FH.rf⟩) ⟨h, FH.rf⟩
  | succ n ih =>
    intro a s k m h hs
    have g := taX_ok (x := Int32.ofNat k) h.1.1 h.1.2 h.2.1.1 h.2.1.2 hs.le1
    rw [xl_quickL]
    generalize e_taX m (Int32.ofNat k) (s - Int32.ofNat 1) = Y at g ⊢
    have hy := h.of43 g.1 g.2.1 g.2.2.1
    have fy := g.2.2.1.h (by omega)
    refine cnd4 (XV m) (fun _ => ?_) (fun e => ?_)
    · obtain ⟨a1, a2⟩ := ih a s (k + 1) Y.2 hy hs
      exact ⟨a1, fy.tr a2⟩
    · obtain ⟨a1, a2⟩ := ih (Int32.ofNat k) Y.1 (k + 1) Y.2 hy (SQ.of g.2.2.2 (ne1_of2 e))
      exact ⟨a1, fy.tr a2⟩
theorem quickest_x {x : Int32} (h : XI m) : XO [1] m (e_quickest m x) := by
  have g : ∀ f : Int32, XV m (xl_quickL f 17 (-1) (Int32.ofNat 401) 0 m) := fun f => quickL_x 17 (-1) (Int32.ofNat 401) 0 m h ⟨401, by omega, rfl⟩
  unfold e_quickest
  exact cnd4 (XO [1] m) (fun _ => cnd4 (XO [1] m) (fun _ => XO.mk rfl (g _).1 (g _).2) (fun _ => XO.mk rfl (g _).1 (g _).2)) (fun _ => XO.rf h rfl)
theorem feed1_x {x : Int32} {n : Nat} (h : XI m) (hn : n + 4 ≤ 400) : XI (e_feed1 m x n) ∧ FG m (e_feed1 m x n) := by
  refine ⟨h.out (fun i l h1 h2 => feed1_i (by omega) (by omega)) (okm.is feed1_5 hn (by omega)) (h.2.2.2.2.1.of (feed1_i (by omega) (by omega))) (h.2.2.2.2.2.1.of (feed1_i (by omega) (by omega))) (fun u hu => (h.2.2.2.2.2.2 u hu).of (feed1_i (by omega) (by omega))), fun i l hi => feed1_i (by omega) (by omega)⟩
noncomputable def XF (m : Nat → Nat → Int32) (q : Int32 × (Nat → Nat → Int32)) : Prop := XI q.2 ∧ FG m q.2
theorem feed_x {a b c e f : Int32} {n : Nat} (h : XI m) (hn : n ≤ 400) : XF m (e_feed m a b c e f n) := by
  unfold e_feed
  refine cnd4 (XF m) (fun q => ?_) (fun _ => ⟨h, FG.rf⟩)
  have h20 := tle_t (by omega) (by omega) q
  have a1 := feed1_x (x := a) (n := n) h (by omega)
  have a2 := feed1_x (x := b) (n := n + 4) a1.1 (by omega)
  have a3 := feed1_x (x := c) (n := n + 8) a2.1 (by omega)
  have a4 := feed1_x (x := e) (n := n + 12) a3.1 (by omega)
  have a5 := feed1_x (x := f) (n := n + 16) a4.1 (by omega)
  exact ⟨a5.1, (((a1.2.tr a2.2).tr a3.2).tr a4.2).tr a5.2⟩
theorem end_x {n : Int32} (h : XI m) : XF m (e_end m n) := by
  unfold e_end
  refine cnd4 (XF m) (fun _ => ⟨h, FG.rf⟩) (fun h1 => cnd4 (XF m) (fun h2 => ?_) (fun _ => ⟨h, FG.rf⟩))
  have h0 := h.2.2.2.1
  rw [h0.1] at h2
  have g := i7_of (by have := h0.2; omega) h1 h2
  rw [g.1]
  exact ⟨h.len (by have := h0.2; omega), FG.rf.put (by omega)⟩
theorem seed_x {n : Int32} (h : XI m) : XV m (e_seed m n) := ⟨h.of1 (h.1.1.put _ (ncM (by omega) (by omega))) (h.1.2.put _ (ndM (by omega))) (FB.refl.put _ ⟨by omega, by omega⟩), FH.rf.put (by omega)⟩
theorem tune_x {x n : Int32} (h : XI m) : XO [1, 2] m (e_tune m x n) := by
  unfold e_tune
  exact cnd4 (XO [1, 2] m) (fun _ => XO.rf h rfl) (fun _ => cnd4 (XO [1, 2] m) (fun _ => cnd4 (XO [1, 2] m) (fun _ => XO.rf h rfl) (fun _ => cnd4 (XO [1, 2] m) (fun _ => XO.mk rfl (h.of1 (h.1.1.put _ (ncE (by omega))) (h.1.2.put _ (ndX (by omega) (by omega))) (FB.refl.put _ ⟨by omega, by omega⟩)) (FH.rf.put (by omega))) (fun _ => XO.rf h rfl))) (fun _ => XO.rf h rfl))
theorem xM3_x {n : Nat} (h : XI m) (hn : n ≤ 400) : XI (xM3 m n) ∧ FG m (xM3 m n) ∧ CG (xM3 m n) 43 ∧ KX (xM3 m n) 43 P0 := by
  obtain ⟨a1, a2, a3, b, a4, a5⟩ := xM3_ok (n := n) h.1.1 h.1.2 h.2.1.1 h.2.1.2 hn
  have g1 : CG (xM3 m n) 1 := h.1.1.same (fun i l hi => a3 i l (by rcases hi with ⟨e, _⟩ | ⟨e, _⟩ | ⟨t, ht, ⟨e, _⟩ | e⟩ | ⟨l, hl, e, _⟩ <;> omega) (by rcases hi with ⟨e, _⟩ | ⟨e, _⟩ | ⟨t, ht, ⟨e, _⟩ | e⟩ | ⟨l, hl, e, _⟩ <;> omega) (by rcases hi with ⟨e, _⟩ | ⟨e, _⟩ | ⟨t, ht, ⟨e, _⟩ | e⟩ | ⟨l, hl, e, _⟩ <;> omega))
  have g2 : KX (xM3 m n) 1 P0 := h.1.2.same (fun i l hi => a3 i l (by rcases hi with ⟨e, _⟩ | ⟨t, ht, ⟨e, _⟩ | ⟨e, _⟩ | e | e⟩ <;> omega) (by rcases hi with ⟨e, _⟩ | ⟨t, ht, ⟨e, _⟩ | ⟨e, _⟩ | e | e⟩ <;> omega) (by rcases hi with ⟨e, _⟩ | ⟨t, ht, ⟨e, _⟩ | ⟨e, _⟩ | e | e⟩ <;> omega))
  have g3 : CG (xM3 m n) 85 := h.2.2.1.1.same (fun i l hi => a3 i l (by rcases hi with ⟨e, _⟩ | ⟨e, _⟩ | ⟨t, ht, ⟨e, _⟩ | e⟩ | ⟨l, hl, e, _⟩ <;> omega) (by rcases hi with ⟨e, _⟩ | ⟨e, _⟩ | ⟨t, ht, ⟨e, _⟩ | e⟩ | ⟨l, hl, e, _⟩ <;> omega) (by rcases hi with ⟨e, _⟩ | ⟨e, _⟩ | ⟨t, ht, ⟨e, _⟩ | e⟩ | ⟨l, hl, e, _⟩ <;> omega))
  have g4 : KX (xM3 m n) 85 P0 := h.2.2.1.2.same (fun i l hi => a3 i l (by rcases hi with ⟨e, _⟩ | ⟨t, ht, ⟨e, _⟩ | ⟨e, _⟩ | e | e⟩ <;> omega) (by rcases hi with ⟨e, _⟩ | ⟨t, ht, ⟨e, _⟩ | ⟨e, _⟩ | e | e⟩ <;> omega) (by rcases hi with ⟨e, _⟩ | ⟨t, ht, ⟨e, _⟩ | ⟨e, _⟩ | e | e⟩ <;> omega))
  have g5 : okm (xM3 m n) 0 5 400 := okm.is (n := 0) (zx_at _ _ _ _) (by omega) (by omega)
  exact ⟨⟨⟨g1, g2⟩, ⟨a1, a2⟩, ⟨g3, g4⟩, g5, okm.is a5 a4 (by omega), h.2.2.2.2.2.1.of (a3 _ _ (by omega) (by omega) (by omega)), fun u hu => (h.2.2.2.2.2.2 u hu).of (a3 _ _ (by omega) (by omega) (by omega))⟩, fun i l hi => a3 i l (by omega) (by omega) (by omega), a1, a2⟩
noncomputable def XZ (L : List Nat) (m : Nat → Nat → Int32) (q : (Int32 ⊕ Nat) × (Nat → Nat → Int32)) : Prop := Al L q.1 = true ∧ XI q.2 ∧ FG m q.2 ∧ q.2 0 5 = Int32.ofNat 0
theorem XZ.mk (a : Al L X = true) (h : XI m') (f : FG m m') (z : m' 0 5 = Int32.ofNat 0) : XZ L m (X, m') := ⟨a, h, f, z⟩
theorem machine_x {n b : Nat} (h : XI m) (hn : n ≤ 400) : XZ [2, 3] m (e_machine m n b) := by
  obtain ⟨a1, a2, a3, a4⟩ := xM3_x h hn
  unfold e_machine
  show XZ [2, 3] m (bif zc2 .eq (xM3 m n 0 6) (-1) then (bif zc2 .lt (xM3 m n 1 6) (Int32.ofNat 12) then (.inl (zm2 (zm2 (x_copyFrom (xM3 m n) 1 43) 1 6 (x_copyFrom (xM3 m n) 1 43 1 6 + Int32.ofNat 1)) 131 8 (Int32.ofNat 0) 1 6), zm2 (zm2 (x_copyFrom (xM3 m n) 1 43) 1 6 (x_copyFrom (xM3 m n) 1 43 1 6 + Int32.ofNat 1)) 131 8 (Int32.ofNat 0)) else (.inr 3, xM3 m n)) else (.inr 2, xM3 m n))
  have z : xM3 m n 0 5 = Int32.ofNat 0 := zx_at _ _ _ _
  generalize xM3 m n = M at a1 a2 a3 a4 z ⊢
  have f : FB (x_copyFrom M 1 43) 1 M := FB.copy (Or.inl (by omega)) a3 FB.refl
  have c : XI (x_copyFrom M 1 43) := a1.of1 (CG.copy (Or.inl (by omega)) a1.1.1 a3) (KX.copy (Or.inl (by omega)) a1.1.2 a4 a3) f
  have c2 : ∀ x : Int32, XI (zm2 (x_copyFrom M 1 43) 1 6 x) := fun x => c.of1 (c.1.1.put _ (ncM (by omega) (by omega))) (c.1.2.put _ (ndM (by omega))) (FB.refl.put _ ⟨by omega, by omega⟩)
  exact cnd4 (XZ [2, 3] m) (fun _ => cnd4 (XZ [2, 3] m) (fun _ => XZ.mk rfl (c2 _).forget (((a2.tr (f.h (by omega)).g).put (by omega)).put (by omega)) ((zx_ne _ _ _ (by omega)).trans ((zx_ne _ _ _ (by omega)).trans ((f 0 5 (by omega)).trans z)))) (fun _ => XZ.mk rfl a1 a2 z)) (fun _ => XZ.mk rfl a1 a2 z)
theorem XI.j (h : XI m) : OJ m (mv m 1 5) := ⟨h.1.1, h.1.2, h.2.2.2.2.2.2, h.1.1.c⟩
theorem searchL_o {n5 : Nat} (hn5 : n5 ≤ 4) : ∀ (n t : Nat) (m : Nat → Nat → Int32), t + n = n5 → OJ m n5 → OJ (xl_searchL n5 n t m) n5 ∧ ∀ i l, i < 131 ∨ 137 ≤ i → xl_searchL n5 n t m i l = m i l := by
  intro n
  induction n with
  | zero =>
    intro t m _ hj
    rw [xl_searchL]
    have o := (pf_ok (σ := fun _ => (0, fun _ => 0)) (yy := (fun _ _ => 0, true, 0, 0)) hn5 10 0 rfl _ hj.told).2
    generalize x_pf n5 10 0 (zcpy (zm2 m 131 6 (Int32.ofNat 0)) (1 + 2) 132 0 0 32) = Y at o ⊢
    refine cndi (fun q : Nat → Nat → Int32 => OJ q n5 ∧ ∀ i l, i < 131 ∨ 137 ≤ i → q i l = m i l) ⟨hj, fun _ _ _ => rfl⟩ (cndi (fun q : Nat → Nat → Int32 => OJ q n5 ∧ ∀ i l, i < 131 ∨ 137 ≤ i → q i l = m i l) ⟨(o.j hj.told).far (by omega) (by omega), fun i l hi => ?_⟩ ⟨hj, fun _ _ _ => rfl⟩)
    rw [zx_ne _ _ _ (by omega), o.2.1 i l hi, zcpy_ne (by omega), zx_ne _ _ _ (by omega)]
  | succ n ih =>
    intro t m htn hj
    obtain ⟨a1, a2⟩ := ih (t + 1) _ (by omega) (hj.p0 (t := t) (x := m 131 7 + x_partCount m 1 t) (by omega))
    refine ⟨a1, fun i l hi => (a2 i l hi).trans ?_⟩
    rw [zx_ne _ _ _ (by omega), zx_ne _ _ _ (by omega), zx_ne _ _ _ (by omega)]
theorem serial_x {k : Int32} (h : XI m) : XV m (e_serial m k (mv m 1 5)) := by
  unfold e_serial
  refine cnd4 (XV m) (fun _ => ⟨h, FH.rf⟩) (fun _ => ?_)
  have h3 := (((h.forget (l := 8) (x := Int32.ofNat 1)).forget (l := 9) (x := Int32.ofNat 0)).forget (l := 7) (x := Int32.ofNat 0))
  have hj : OJ (zm2 (zm2 (zm2 m 131 8 (Int32.ofNat 1)) 131 9 (Int32.ofNat 0)) 131 7 (Int32.ofNat 0)) (mv m 1 5) := ((h.j.far (by omega) (by omega)).far (by omega) (by omega)).far (by omega) (by omega)
  obtain ⟨a1, a2⟩ := searchL_o h.1.1.c4 (mv m 1 5) 0 _ (by omega) hj
  have e : ∀ i l, i < 131 ∨ 137 ≤ i → x_search m (mv m 1 5) i l = m i l := fun i l hi => (a2 i l hi).trans (by rw [zx_ne _ _ _ (by omega), zx_ne _ _ _ (by omega), zx_ne _ _ _ (by omega)])
  exact ⟨h.out (fun i l h1 h2 => e i l (by omega)) (h.2.2.2.1.of (e _ _ (by omega))) (h.2.2.2.2.1.of (e _ _ (by omega))) (h.2.2.2.2.2.1.of (e _ _ (by omega))) a1.2.2.1, fun i l hi => e i l (by omega)⟩
theorem WF.x (h : XI m) (w : WF m m') : XI m' ∧ FH m m' := ⟨h.out (fun i l h1 h2 => w.1 i l (by omega) (by omega)) (h.2.2.2.1.of (w.1 _ _ (by omega) (by omega))) (h.2.2.2.2.1.of (w.1 _ _ (by omega) (by omega))) w.2 (fun u hu => (h.2.2.2.2.2.2 u hu).of (w.1 _ _ (by omega) (by omega))), fun i l hi => w.1 i l (by omega) (by omega)⟩
end ZXI
section ZAL
variable {m : Nat → Nat → Int32} {t k x : Int32}
theorem al_thread : Al [0, 1] (e_thread m t x) = true := by
  unfold e_thread
  repeat' (refine cndi (fun q => Al [0, 1] q = true) ?_ ?_)
  all_goals rfl
theorem al_leftOut : Al [0] (e_leftOut m t k) = true := by
  unfold e_leftOut
  repeat' (refine cndi (fun q => Al [0] q = true) ?_ ?_)
  all_goals rfl
theorem al_blocks : Al [0, 1] (e_blocks m t x) = true := by
  unfold e_blocks
  repeat' (refine cndi (fun q => Al [0, 1] q = true) ?_ ?_)
  all_goals rfl
theorem al_fell : Al [0, 1] (e_fell m t x) = true := by
  unfold e_fell
  repeat' (refine cndi (fun q => Al [0, 1] q = true) ?_ ?_)
  all_goals rfl
theorem al_word : Al [0] (e_word m t) = true := by
  unfold e_word
  repeat' (refine cndi (fun q => Al [0] q = true) ?_ ?_)
  all_goals rfl
theorem al_sees : Al [0] (e_sees m t x) = true := by
  unfold e_sees
  repeat' (refine cndi (fun q => Al [0] q = true) ?_ ?_)
  all_goals rfl
theorem al_lock : Al [0, 1] (e_lock m t x) = true := by
  unfold e_lock
  repeat' (refine cndi (fun q => Al [0, 1] q = true) ?_ ?_)
  all_goals rfl
theorem al_term : Al [1] (e_term m t) = true := by
  unfold e_term
  repeat' (refine cndi (fun q => Al [1] q = true) ?_ ?_)
  all_goals rfl
theorem al_deed : Al [0, 1] (e_deed m t k x) = true := by
  unfold e_deed
  repeat' (refine cndi (fun q => Al [0, 1] q = true) ?_ ?_)
  all_goals rfl
theorem al_touches : Al [0, 1] (e_touches m t x) = true := by
  unfold e_touches
  repeat' (refine cndi (fun q => Al [0, 1] q = true) ?_ ?_)
  all_goals rfl
theorem al_rivals : Al [0, 2] (e_rivals m t x) = true := by
  unfold e_rivals
  repeat' (refine cndi (fun q => Al [0, 2] q = true) ?_ ?_)
  all_goals rfl
theorem al_nest : Al [0] (e_nest m t) = true := by
  unfold e_nest
  repeat' (refine cndi (fun q => Al [0] q = true) ?_ ?_)
  all_goals rfl
theorem al_parts : Al [0] (e_parts m t) = true := by
  unfold e_parts
  repeat' (refine cndi (fun q => Al [0] q = true) ?_ ?_)
  all_goals rfl
theorem al_output : Al [1] (e_output m t x) = true := by
  unfold e_output
  repeat' (refine cndi (fun q => Al [1] q = true) ?_ ?_)
  all_goals rfl
theorem al_log : Al [1] (e_log m t x) = true := by
  unfold e_log
  repeat' (refine cndi (fun q => Al [1] q = true) ?_ ?_)
  all_goals rfl
end ZAL
