/-! what is kept of a search stays right -/
def oEQ (V W : Nat → Int32) : Prop := ∀ k, 9 ≤ k → k ≠ 13 → V k = W k
section ZEQ
variable {V W : Nat → Int32}
theorem oEQ.num (h : oEQ V W) {k : Nat} (h9 : 9 ≤ k) (h13 : k ≠ 13) : nv V k = nv W k := by
  unfold nv
  rw [h k h9 h13]
theorem oEQ.t (h : oEQ V W) (t c : Nat) : V (376 + 103 * t + c) = W (376 + 103 * t + c) := h _ (by omega) (by omega)
theorem oEQ.tn (h : oEQ V W) (t c : Nat) : nv V (376 + 103 * t + c) = nv W (376 + 103 * t + c) := h.num (by omega) (by omega)
theorem eq_isDone (h : oEQ V W) (t : Nat) : q_isDone V t = q_isDone W t := by simp only [q_isDone, q_of, h.t]
theorem eq_doneL (h : oEQ V W) : ∀ (n : Nat) (s : Int32) (k : Nat), l_doneOnes V n s k = l_doneOnes W n s k := by
  intro n
  induction n with
  | zero => intro s k; rfl
  | succ n ih => intro s k; simp only [l_doneOnes, eq_isDone h, ih]
theorem eq_areAllDone (h : oEQ V W) : q_areAllDone V = q_areAllDone W := by
  unfold q_areAllDone q_threads q_doneOnes
  rw [eq_doneL h, h.num (k := 9) (by omega) (by omega), h 9 (by omega) (by omega)]
theorem eq_deedOf (h : oEQ V W) (t p k : Nat) : q_deedOf V t p k = q_deedOf W t p k := h.t _ _
theorem eq_held (h : oEQ V W) (t p : Nat) (s : Int32) : q_heldBehind V t p s = q_heldBehind W t p s := by simp only [q_heldBehind, eq_deedOf h]
theorem eq_bpL (h : oEQ V W) (t : Nat) : ∀ (n : Nat) (s : Int32) (k : Nat), l_behindPart V t n s k = l_behindPart W t n s k := by
  intro n
  induction n with
  | zero => intro s k; rfl
  | succ n ih => intro s k; simp only [l_behindPart, eq_held h, ih]
theorem eq_bpn (h : oEQ V W) (t p : Nat) : bpn V t p = bpn W t p := by
  unfold bpn q_behindPart
  rw [eq_bpL h, h.tn]
theorem eq_partsL (h : oEQ V W) (t : Nat) : ∀ (n c p : Nat), l_partsOf V t n c p = l_partsOf W t n c p := by
  intro n
  induction n with
  | zero => intro c p; rfl
  | succ n ih => intro c p; simp only [l_partsOf, h.tn, eq_bpn h, ih]
theorem eq_ptn (h : oEQ V W) (t : Nat) : ptn V t = ptn W t := by
  unfold ptn q_partsOf
  rw [eq_partsL h, h.tn]
theorem eq_allL (h : oEQ V W) : ∀ (n a t : Nat), l_allParts V n a t = l_allParts W n a t := by
  intro n
  induction n with
  | zero => intro a t; rfl
  | succ n ih => intro a t; simp only [l_allParts, eq_ptn h, ih]
theorem eq_firstL (h : oEQ V W) : ∀ (n i : Nat) (m : Nat → Nat → Int32), l_firstL V n i m = l_firstL W n i m := by
  intro n
  induction n with
  | zero => intro i m; rfl
  | succ n ih =>
    intro i m
    have e : V (64 + i) = W (64 + i) := h _ (by omega) (by omega)
    simp only [l_firstL, e, ih]
theorem eq_wdo (h : oEQ V W) (m : Nat → Nat → Int32) (b t K n : Nat) : q_wdoDeed m V b t K n = q_wdoDeed m W b t K n := by
  have e : nv V (16 + n) = nv W (16 + n) := h.num (by omega) (by omega)
  unfold q_wdoDeed
  rw [e]
theorem eq_playL (h : oEQ V W) (b t : Nat) : ∀ (n : Nat) (is : Int32) (p : Nat) (m : Nat → Nat → Int32), l_playL V b t n is p m = l_playL W b t n is p m := by
  intro n
  induction n with
  | zero => intro is p m; rfl
  | succ n ih => intro is p m; simp only [l_playL, h.tn, eq_wdo h, ih]
theorem eq_now2 (h : oEQ V W) (m : Nat → Nat → Int32) (b O : Nat) : ∀ (n : Nat) (is : Int32) (k : Nat), l_asNow2 m V b O n is k = l_asNow2 m W b O n is k := by
  intro n
  induction n with
  | zero => intro is k; rfl
  | succ n ih =>
    intro is k
    have e : V (96 + k) = W (96 + k) := h _ (by omega) (by omega)
    simp only [l_asNow2, e, ih]
theorem eq_now1 (h : oEQ V W) (m : Nat → Nat → Int32) (b O : Nat) : ∀ (n : Nat) (is : Int32) (k : Nat), l_asNow1 m V b O n is k = l_asNow1 m W b O n is k := by
  intro n
  induction n with
  | zero => intro is k; exact eq_now2 h m b O _ _ _
  | succ n ih =>
    intro is k
    have e : V (32 + k) = W (32 + k) := h _ (by omega) (by omega)
    have e7 : q_asNow71 m V b is k O = q_asNow71 m W b is k O := eq_now2 h m b O _ _ _
    simp only [l_asNow1, e, e7, ih]
theorem eq_now (h : oEQ V W) (m : Nat → Nat → Int32) (b O : Nat) : q_isAsNow m V b O = q_isAsNow m W b O := by
  have e : V 14 = W 14 := h _ (by omega) (by omega)
  unfold q_isAsNow
  rw [e, eq_now1 h, eq_now1 h]
theorem eq_ordL (h : oEQ V W) (e all b : Nat) (rec : (Nat → Nat → Int32) → Int32 × (Nat → Nat → Int32)) : ∀ (n t : Nat) (m : Nat → Nat → Int32), l_orders V e all b rec n t m = l_orders W e all b rec n t m := by
  intro n
  induction n with
  | zero => intro t m; rfl
  | succ n ih => intro t m; simp only [l_orders, h.tn, eq_bpn h, eq_playL h, ih]
theorem eq_orders (h : oEQ V W) (all : Nat) : ∀ (n e : Nat) (m : Nat → Nat → Int32), q_orders V all n e m = q_orders W all n e m := by
  intro n
  induction n with
  | zero =>
    intro e m
    show (q_isAsNow m V (81 * e) (nv V 14), m) = (q_isAsNow m W (81 * e) (nv W 14), m)
    rw [eq_now h, h.num (k := 14) (by omega) (by omega)]
  | succ n ih =>
    intro e m
    show l_orders V e all (81 * e) (q_orders V all n (e + 1)) (nv V 9) 0 m = l_orders W e all (81 * e) (q_orders W all n (e + 1)) (nv W 9) 0 m
    rw [eq_ordL h, h.num (k := 9) (by omega) (by omega), show q_orders V all n (e + 1) = q_orders W all n (e + 1) from funext (ih (e + 1))]
theorem eq_serial (h : oEQ V W) (Q : Nat → Nat → Int32) (v : Int32) : q_serial Q V v = q_serial Q W v := by
  have e9 : nv V 9 = nv W 9 := h.num (by omega) (by omega)
  unfold q_serial
  rw [eq_areAllDone h, e9, eq_allL h, eq_firstL h]
  simp only [eq_orders h]
theorem oEQ.rf : oEQ W W := fun _ _ _ => rfl
theorem oEQ.put {k : Nat} {x : Int32} (hk : k < 9 ∨ k = 13) : oEQ (upd W k x) W := fun j h9 h13 => upd_ne _ _ (by omega)
end ZEQ
/-- what is kept of a search is what a search comes to -/
def KN (m : Nat → Nat → Int32) : Prop := zc1 .ne (m 131 8) = true → ∀ (v : Int32) (Q : Nat → Nat → Int32), x_threadOf m v = (q_serial Q (m 138) v).1
/-- the class's own machine and what it kept, left alone -/
def KR (m m' : Nat → Nat → Int32) : Prop := ∀ i l, (1 ≤ i ∧ i < 43) ∨ i = 131 ∨ i = 136 → m' i l = m i l
/-- a call forgets, or leaves it all alone -/
def KF (m m' : Nat → Nat → Int32) : Prop := m' 131 8 = Int32.ofNat 0 ∨ KR m m'
section ZKN
variable {m m' m'' P : Nat → Nat → Int32} {t x n w v k a b c e f : Int32}
theorem KR.rf : KR m m := fun _ _ _ => rfl
theorem KR.tr (h : KR m m') (g : KR m' m'') : KR m m'' := fun i l hi => (g i l hi).trans (h i l hi)
theorem KR.lo (h : KR m m') (g : LO m' m'') : KR m m'' := fun i l hi => (congrFun (g i (by omega)) l).trans (h i l hi)
theorem KF.rf : KF m m := Or.inr KR.rf
theorem KF.z : KF m (zm2 m' 131 8 (Int32.ofNat 0)) := Or.inl (zx_at _ _ _ _)
theorem KF.lo (h : KF m m') (g : LO m' m'') : KF m m'' := by
  rcases h with h | h
  · exact Or.inl ((congrFun (g 131 (by omega)) 8).trans h)
  · exact Or.inr (h.lo g)
theorem thr_e (h1 : ∀ l, m' 131 l = m 131 l) (h2 : ∀ l, m' 136 l = m 136 l) : x_threadOf m' v = x_threadOf m v := by
  unfold x_threadOf
  rw [h1, h1, h2]
theorem KN.eq (h : KN m) (h1 : ∀ l, m' 131 l = m 131 l) (h2 : ∀ l, m' 136 l = m 136 l) (e : oEQ (m' 138) (m 138)) : KN m' := by
  intro c v Q
  rw [h1] at c
  rw [thr_e h1 h2, eq_serial e]
  exact h c v Q
theorem LR.lw (h : LR m) : LW m (m 138) := ⟨h.1, trivial⟩
theorem LR.n5 (h : LR m) : mv m 1 5 = nv (m 138) 9 := by
  have e : m 1 5 = m 138 9 := h.1.1.globR (k := 9) (o := 0) (s := 5) (by omega) (by omega) rfl
  unfold mv nv
  rw [e]
theorem LR.ser (h : LR m) (hx : XI m) (v : Int32) (Q : Nat → Nat → Int32) : x_threadOf (x_search m (mv m 1 5)) v = (q_serial Q (m 138) v).1 := by
  have j := hx.j
  rw [h.n5] at j ⊢
  exact ser_eq h.lw j v Q
theorem KN.of (h : KN m) (hx : XI m) (hl : LR m) (hl2 : LR m') (g : KF m m') : KN m' := by
  intro c v Q
  rcases g with g | g
  · rw [g, zne0] at c
    exact absurd c (by decide)
  · rw [g 131 8 (by omega)] at c
    have lw2 : LW m (m' 138) := hl2.lw.far (fun i l h1 h2 => (g i l (by omega)).symm)
    have e5 : mv m 1 5 = nv (m' 138) 9 := by
      rw [← hl2.n5]
      unfold mv
      rw [g 1 5 (by omega)]
    have j := hx.j
    rw [e5] at j
    have s2 := ser_eq lw2 j v Q
    have s1 := hl.ser hx v Q
    rw [e5] at s1
    rw [thr_e (fun l => g 131 l (by omega)) (fun l => g 136 l (by omega)), h c v Q, ← s1, s2]
/-- serial keeps what it finds -/
theorem kn_serial (h : KN m) (hx : XI m) (hl : LR m) : KN (e_serial m k (mv m 1 5)).2 := by
  unfold e_serial
  refine cndi (fun q : Int32 × (Nat → Nat → Int32) => KN q.2) h ?_
  intro c v Q
  have hj : OJ (zm2 (zm2 (zm2 m 131 8 (Int32.ofNat 1)) 131 9 (Int32.ofNat 0)) 131 7 (Int32.ofNat 0)) (mv m 1 5) := ((hx.j.far (by omega) (by omega)).far (by omega) (by omega)).far (by omega) (by omega)
  obtain ⟨-, a2⟩ := searchL_o hx.1.1.c4 (mv m 1 5) 0 _ (by omega) hj
  have e8 : x_search m (mv m 1 5) 138 = m 138 := funext (fun l => (a2 138 l (by omega)).trans (by rw [zx_ne _ _ _ (by omega), zx_ne _ _ _ (by omega), zx_ne _ _ _ (by omega)]))
  show x_threadOf (x_search m (mv m 1 5)) v = (q_serial Q (x_search m (mv m 1 5) 138) v).1
  rw [e8]
  exact hl.ser hx v Q
theorem an_serial (h : KN m) (hx : XI m) (hl : LR m) (Q : Nat → Nat → Int32) : (e_serial m k (mv m 1 5)).1 = (q_serial Q (m 138) k).1 := by
  unfold e_serial
  cases hc : zc1 .ne (m 131 8) with
  | true => exact h hc k Q
  | false => exact hl.ser hx k Q
theorem KF.fg (g : FB m' 1 (zm2 m 131 8 (Int32.ofNat 0))) : KF m m' := Or.inl ((g 131 8 (by omega)).trans (zx_at _ _ _ _))
theorem KR.f43 (g : FB m' 43 m) : KR m m' := fun i l hi => g i l (by omega)
theorem KR.f85 (g : FB m' 85 m) : KR m m' := fun i l hi => g i l (by omega)
def KE (m : Nat → Nat → Int32) (q : (Int32 ⊕ Nat) × (Nat → Nat → Int32)) : Prop := KF m q.2
def KV (m : Nat → Nat → Int32) (q : Int32 × (Nat → Nat → Int32)) : Prop := KF m q.2
theorem kf_step (h : XI m) : KE m (e_step m t) := by
  unfold e_step
  refine cnd4 (KE m) (fun h0 => cnd4 (KE m) (fun _ => KF.rf) (fun h1 => cnd4 (KE m) (fun _ => ?_) (fun _ => KF.rf))) (fun _ => KF.rf)
  have c4 := h.1.1.c4
  have t4 : t.toNatClampNeg < 4 := by have := (xk_1638 h.1.1 h0).2; omega
  have hx := h.forget (l := 8) (x := Int32.ofNat 0)
  have hr : KX (zm2 m 131 8 (Int32.ofNat 0)) 1 (fun u => u = t.toNatClampNeg) := (h.1.2.run t4 (c1ne0 h1)).far (by omega)
  have g : FB (x_takeStep (zm2 m 131 8 (Int32.ofNat 0)) 1 t.toNatClampNeg).2 1 (zm2 m 131 8 (Int32.ofNat 0)) := FB.refl.takeStep hx.1.1 hr t4
  exact KF.fg g
theorem kf_poke (h : XI m) : KE m (e_poke m w v) := by
  unfold e_poke
  refine cnd4 (KE m) (fun h0 => cnd4 (KE m) (fun _ => KF.rf) (fun h1 => cnd4 (KE m) (fun _ => ?_) (fun _ => KF.rf))) (fun _ => KF.rf)
  have hx := h.forget (l := 8) (x := Int32.ofNat 0)
  have g := reachX_ok (m := zm2 m 131 8 (Int32.ofNat 0)) (b := 1) (w := w.toNatClampNeg) (v := v) hx.1.1 hx.1.2 FB.refl
  exact KF.fg g.2.2
theorem kf_run (h : XI m) : KE m (e_run m n) := by
  unfold e_run
  refine cnd4 (KE m) (fun _ => ?_) (fun _ => KF.rf)
  have hx := h.forget (l := 8) (x := Int32.ofNat 0)
  have g := goTurnL_o (n0 := n.toNatClampNeg) n.toNatClampNeg 0 (zm2 m 131 8 (Int32.ofNat 0)) hx.1.1 hx.1.2 FB.refl
  exact KF.fg g.2.2
theorem kf_chance (h : XI m) : KE m (e_chance m n) := by
  unfold e_chance
  refine cnd4 (KE m) (fun _ => ?_) (fun _ => KF.rf)
  have hx := h.forget (l := 8) (x := Int32.ofNat 0)
  have g := goDrawL_o (n0 := n.toNatClampNeg) n.toNatClampNeg 0 (zm2 m 131 8 (Int32.ofNat 0)) hx.1.1 hx.1.2 FB.refl
  exact KF.fg g.2.2
theorem kf_due (h : XI m) : KE m (e_due m t) := by
  unfold e_due
  refine cnd4 (KE m) (fun _ => ?_) (fun _ => KF.rf)
  have g := taT_ok (t := t.toNatClampNeg) (x := m (1 + 3) 4) (q := Int32.ofNat 400) h.1.1 h.1.2 h.2.1.1 h.2.1.2 (by decide)
  exact Or.inr (KR.f43 g.2.2.1)
theorem kf_plain (h : XI m) : KV m (e_plain m) := by
  have g := taX_ok (x := Int32.ofNat 16) (q := Int32.ofNat 400) h.1.1 h.1.2 h.2.1.1 h.2.1.2 (by decide)
  unfold e_plain
  generalize e_taX m (Int32.ofNat 16) (Int32.ofNat 400) = Y at g ⊢
  exact Or.inr (KR.f43 g.2.2.1)
theorem kr_quickL {f : Int32} : ∀ (n : Nat) (a s : Int32) (k : Nat) (m : Nat → Nat → Int32), XI m → SQ s → KR m (xl_quickL f n a s k m).2 := by
  intro n
  induction n with
  | zero =>
    intro a s k m h hs
    exact cndi (fun q : Int32 × (Nat → Nat → Int32) => KR m q.2) (cndi (fun q : Int32 × (Nat → Nat → Int32) => KR m q.2) KR.rf KR.rf) KR.rf
  | succ n ih =>
    intro a s k m h hs
    have g := taX_ok (x := Int32.ofNat k) h.1.1 h.1.2 h.2.1.1 h.2.1.2 hs.le1
    rw [xl_quickL]
    generalize e_taX m (Int32.ofNat k) (s - Int32.ofNat 1) = Y at g ⊢
    have hy := h.of43 g.1 g.2.1 g.2.2.1
    have fy := KR.f43 g.2.2.1
    exact cnd4 (fun q : Int32 × (Nat → Nat → Int32) => KR m q.2) (fun _ => fy.tr (ih a s (k + 1) Y.2 hy hs)) (fun e => fy.tr (ih (Int32.ofNat k) Y.1 (k + 1) Y.2 hy (SQ.of g.2.2.2 (ne1_of2 e))))
theorem kf_quickest (h : XI m) : KE m (e_quickest m x) := by
  have g : ∀ f : Int32, KR m (xl_quickL f 17 (-1) (Int32.ofNat 401) 0 m).2 := fun f => kr_quickL 17 (-1) (Int32.ofNat 401) 0 m h ⟨401, by omega, rfl⟩
  have g0 := g (Int32.ofNat 0)
  have g1 := g (Int32.ofNat 1)
  clear g
  unfold e_quickest
  generalize xl_quickL (Int32.ofNat 0) 17 (-1) (Int32.ofNat 401) 0 m = Y0 at g0 ⊢
  generalize xl_quickL (Int32.ofNat 1) 17 (-1) (Int32.ofNat 401) 0 m = Y1 at g1 ⊢
  exact cnd4 (KE m) (fun _ => cnd4 (KE m) (fun _ => Or.inr g0) (fun _ => Or.inr g1)) (fun _ => KF.rf)
theorem kf_back : KV m (e_back m) := by
  unfold e_back
  exact cnd4 (KV m) (fun _ => (KF.z : KF m (zm2 (x_copyFrom m 1 85) 131 8 (Int32.ofNat 0)))) (fun _ => KF.rf)
theorem kr_image (h : XI m) : KR m (e_image m) := by
  have g : FB (x_copyFrom m 85 1) 85 m := FB.copy (Or.inr (by omega)) h.1.1 FB.refl
  exact fun i l hi => (zx_ne _ _ _ (by omega)).trans (KR.f85 g i l hi)
theorem kf_machine {n b : Nat} (h : XI m) (hn : n ≤ 400) : KE m (e_machine m n b) := by
  obtain ⟨-, -, a3, -⟩ := xM3_ok (n := n) h.1.1 h.1.2 h.2.1.1 h.2.1.2 hn
  have r : KR m (xM3 m n) := fun i l hi => a3 i l (by omega) (by omega) (by omega)
  unfold e_machine
  show KE m (bif zc2 .eq (xM3 m n 0 6) (-1) then (bif zc2 .lt (xM3 m n 1 6) (Int32.ofNat 12) then (.inl (zm2 (zm2 (x_copyFrom (xM3 m n) 1 43) 1 6 (x_copyFrom (xM3 m n) 1 43 1 6 + Int32.ofNat 1)) 131 8 (Int32.ofNat 0) 1 6), zm2 (zm2 (x_copyFrom (xM3 m n) 1 43) 1 6 (x_copyFrom (xM3 m n) 1 43 1 6 + Int32.ofNat 1)) 131 8 (Int32.ofNat 0)) else (.inr 3, xM3 m n)) else (.inr 2, xM3 m n))
  exact cnd4 (KE m) (fun _ => cnd4 (KE m) (fun _ => (KF.z : KF m (zm2 (zm2 (x_copyFrom (xM3 m n) 1 43) 1 6 (x_copyFrom (xM3 m n) 1 43 1 6 + Int32.ofNat 1)) 131 8 (Int32.ofNat 0)))) (fun _ => Or.inr r)) (fun _ => Or.inr r)
theorem kr_feed {n : Nat} : KR m (e_feed m a b c e f n).2 := by
  have g1 : ∀ (M : Nat → Nat → Int32) (x : Int32) (j : Nat), KR M (e_feed1 M x j) := fun M x j i l hi => feed1_i (by omega) (by omega)
  unfold e_feed
  exact cndi (fun q : Int32 × (Nat → Nat → Int32) => KR m q.2) (((((g1 _ _ _).tr (g1 _ _ _)).tr (g1 _ _ _)).tr (g1 _ _ _)).tr (g1 _ _ _)) KR.rf
theorem kn_tune (h : KN m) (Q : Nat → Nat → Int32) : (∀ i l, i = 131 ∨ i = 136 → (e_tune m x n).2 i l = m i l) ∧ oEQ (q_tune Q (m 138) x n).2.1 (m 138) := by
  constructor
  · intro i l hi
    unfold e_tune
    exact cndi (fun q : (Int32 ⊕ Nat) × (Nat → Nat → Int32) => q.2 i l = m i l) rfl (cndi (fun q : (Int32 ⊕ Nat) × (Nat → Nat → Int32) => q.2 i l = m i l) (cndi (fun q : (Int32 ⊕ Nat) × (Nat → Nat → Int32) => q.2 i l = m i l) rfl (cndi (fun q : (Int32 ⊕ Nat) × (Nat → Nat → Int32) => q.2 i l = m i l) (zx_ne _ _ _ (by omega)) rfl)) rfl)
  · unfold q_tune
    refine cnd4 (fun q : Int32 × (Nat → Int32) × (Nat → Nat → Int32) => oEQ q.2.1 (m 138)) (fun h1 => cnd4 (fun q : Int32 × (Nat → Int32) × (Nat → Nat → Int32) => oEQ q.2.1 (m 138)) (fun _ => oEQ.put (Or.inl ?_)) (fun _ => oEQ.rf)) (fun _ => oEQ.rf)
    rw [in_rg] at h1
    have q := of_decide_eq_true h1
    rw [zoN (by omega), zoN (by omega)] at q
    obtain ⟨-, b⟩ := nat_ge (x := x) (by omega)
    omega
end ZKN
