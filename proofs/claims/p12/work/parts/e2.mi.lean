/-! reading leaves the last turn alone -/
noncomputable def R12 (c : Int32) (X : Int32 × (Nat → Int32) × Nat × Nat) : Prop := X.2.1 12 = c
section ZR2
variable {m : Nat → Nat → Int32} {W : Nat → Int32} {p b t : Nat} {c : Int32}
theorem R12.mk {v : Int32} (h : W 12 = c) : R12 c (v, W, p, b) := h
theorem R12.eta {X : Int32 × (Nat → Int32) × Nat × Nat} (h : R12 c X) : R12 c (X.1, X.2.1, X.2.2.1, X.2.2.2) := h
theorem R12.m2 {X : Int32 × (Nat → Int32) × Nat × Nat} {v : Int32} (h : R12 c X) : R12 c (v, X.2.1, p, b) := h
theorem u12 {k : Nat} {x : Int32} (hk : 12 ≠ k) (h : W 12 = c) : upd W k x 12 = c := (upd_ne _ _ hk).trans h
theorem readTo_12 {k : Nat} {lo hi : Int32} (hk : 12 ≠ k) (h : W 12 = c) : R12 c (q_readTo m W p k lo hi) := by
  unfold q_readTo
  exact cndi (R12 c) (R12.mk h) (R12.mk (u12 hk h))
theorem readDeed_12 {L : Nat} (h : W 12 = c) : R12 c (q_readDeed m W p t L) := by
  unfold q_readDeed
  repeat' (refine cndi (R12 c) ?_ ?_)
  all_goals first
    | (refine R12.mk ?_; (repeat' (first | refine u12 (by first | exact zq_adn (by decide) | exact zq_adr (zq_adn (by decide)) | omega) ?_ | exact h)); done)
    | (repeat' (first | exact h | refine u12 (by first | exact zq_adn (by decide) | exact zq_adr (zq_adn (by decide)) | omega) ?_))
theorem deeds_12 : ∀ (n L : Nat) (W : Nat → Int32) (p b : Nat), W 12 = c → R12 c (l_deeds m t n L W p b) := by
  intro n
  induction n with
  | zero => intro L W p b h; rw [l_deeds]; exact R12.m2 (readDeed_12 h)
  | succ n ih =>
    intro L W p b h
    have r : R12 c (q_readDeed m W p t L) := readDeed_12 h
    rw [l_deeds]
    generalize q_readDeed m W p t L = X at r ⊢
    exact cndi (R12 c) (cndi (R12 c) (ih _ _ _ _ r) (R12.m2 r)) (R12.m2 r)
theorem rclears_12 : ∀ (n k : Nat) (W : Nat → Int32), W 12 = c → R12 c (l_rclears m p b t n k W) := by
  intro n
  induction n with
  | zero => intro k W h; rw [l_rclears]; unfold q_thread37; exact deeds_12 _ _ _ _ _ (u12 (by first | exact zq_adn (by decide) | exact zq_adr (zq_adn (by decide)) | omega) h)
  | succ n ih => intro k W h; rw [l_rclears]; exact ih _ _ (u12 (by first | exact zq_adn (by decide) | exact zq_adr (zq_adn (by decide)) | omega) h)
theorem readThread_12 (h : W 12 = c) : R12 c (q_readThread m W p b) := by
  unfold q_readThread
  exact cndi (R12 c) (rclears_12 _ _ _ h) (R12.mk h)
theorem readWordLine_12 (h : W 12 = c) : R12 c (q_readWordLine m W p) := by
  unfold q_readWordLine
  repeat' (refine cndi (R12 c) ?_ ?_)
  all_goals first
    | (refine R12.mk ?_; (repeat' (first | refine u12 (by first | exact zq_adn (by decide) | exact zq_adr (zq_adn (by decide)) | omega) ?_ | exact h)); done)
    | (repeat' (first | exact h | refine u12 (by first | exact zq_adn (by decide) | exact zq_adr (zq_adn (by decide)) | omega) ?_))
theorem readLockL_12 {l w : Int32} (h : W 12 = c) : ∀ (n : Nat) (is : Int32) (o : Nat), (l_readLock W l w n is o).2 12 = c := by
  intro n
  induction n with
  | zero => intro is o; rw [l_readLock]; exact cndi (fun q : Int32 × (Nat → Int32) => q.2 12 = c) h (u12 (by first | exact zq_adn (by decide) | exact zq_adr (zq_adn (by decide)) | omega) h)
  | succ n ih => intro is o; rw [l_readLock]; exact cndi (fun q : Int32 × (Nat → Int32) => q.2 12 = c) h (cndi (fun q : Int32 × (Nat → Int32) => q.2 12 = c) (ih _ _) (cndi (fun q : Int32 × (Nat → Int32) => q.2 12 = c) (ih _ _) (ih _ _)))
theorem readLock_12 (h : W 12 = c) : R12 c (q_readLock m W p) := by
  have a : ∀ (l w : Int32) (n : Nat) (is : Int32) (o : Nat), (l_readLock W l w n is o).2 12 = c := fun l w n is o => readLockL_12 h n is o
  unfold q_readLock
  repeat' (refine cndi (R12 c) ?_ ?_)
  all_goals first
    | exact R12.mk h
    | exact R12.mk (a _ _ _ _ _)
theorem readTrustL_12 {v : Int32} : ∀ (n l : Nat) (W : Nat → Int32), W 12 = c → (l_readTrust v n l W).2 12 = c := by
  intro n
  induction n with
  | zero => intro l W h; rw [l_readTrust]; exact cndi (fun q : Int32 × (Nat → Int32) => q.2 12 = c) h h
  | succ n ih => intro l W h; rw [l_readTrust]; exact cndi (fun q : Int32 × (Nat → Int32) => q.2 12 = c) h (ih _ _ (u12 (by first | exact zq_adn (by decide) | exact zq_adr (zq_adn (by decide)) | omega) h))
theorem readTrust_12 (h : W 12 = c) : R12 c (q_readTrust m W p) := by
  unfold q_readTrust
  exact R12.mk (readTrustL_12 _ _ _ h)
theorem readLine_12 (h : W 12 = c) : R12 c (q_readLine m W p b) := by
  have u8 : ∀ x, R12 c (Int32.ofNat 1, upd W 8 x, p, b) := fun x => R12.mk (u12 (by first | exact zq_adn (by decide) | exact zq_adr (zq_adn (by decide)) | omega) h)
  have no : ∀ (v : Int32) (p b : Nat), R12 c (v, W, p, b) := fun v p b => R12.mk h
  unfold q_readLine
  refine cnd4 (R12 c) (fun _ => cnd4 (R12 c) (fun _ => cnd4 (R12 c) (fun _ => cnd4 (R12 c) (fun _ => cnd4 (R12 c) (fun _ => ?_) (fun _ => ?_)) (fun _ => ?_)) (fun _ => ?_)) (fun _ => ?_)) (fun _ => ?_)
  · refine cnd4 (R12 c) (fun _ => cnd4 (R12 c) (fun _ => u8 _) (fun _ => u8 _)) (fun _ => cnd4 (R12 c) (fun _ => cnd4 (R12 c) (fun _ => no _ _ _) (fun ht => ?_)) (fun _ => cnd4 (R12 c) (fun _ => u8 _) (fun _ => u8 _)))
    have hT := (termHere_k ht).2
    have r : ∀ lo hi, R12 c (q_readTo m W p (q_termHere m p b).toNatClampNeg lo hi) := fun lo hi => readTo_12 (by first | exact zq_adn (by decide) | exact zq_adr (zq_adn (by decide)) | omega) h
    exact cnd4 (R12 c) (fun _ => R12.m2 (r _ _)) (fun _ => R12.m2 (r _ _))
  · have r : ∀ lo hi, R12 c (q_readTo m W p 0 lo hi) := fun lo hi => readTo_12 (by first | exact zq_adn (by decide) | exact zq_adr (zq_adn (by decide)) | omega) h
    exact cnd4 (R12 c) (fun _ => no _ _ _) (fun _ => cnd4 (R12 c) (fun _ => R12.m2 (r _ _)) (fun _ => R12.m2 (r _ _)))
  · exact R12.eta (readTrust_12 h)
  · exact R12.eta (readLock_12 h)
  · exact R12.eta (readWordLine_12 h)
  · exact R12.eta (readThread_12 h)
theorem readTextL_12 : ∀ (n k : Nat) (W : Nat → Int32) (p b : Nat), W 12 = c → R12 c (l_readText m n k W p b) := by
  intro n
  induction n with
  | zero => intro k W p b h; rw [l_readText]; exact R12.mk h
  | succ n ih =>
    intro k W p b h
    have r : R12 c (q_readLine m W (q_letters m p).1 (q_letters m p).2) := readLine_12 h
    rw [l_readText]
    generalize q_readLine m W (q_letters m p).1 (q_letters m p).2 = X at r ⊢
    repeat' (refine cndi (R12 c) ?_ ?_)
    all_goals first
      | exact ih _ _ _ _ r
      | exact R12.m2 r
theorem readText_12 (h : W 12 = c) : R12 c (q_readText m W p) := by
  unfold q_readText
  exact cndi (R12 c) (readTextL_12 _ _ _ _ _ h) (R12.mk h)
end ZR2
section ZMK
variable {m m' : Nat → Nat → Int32} {W W' : Nat → Int32}
theorem falls_12 {t y : Nat} (h : WG W) (ht : t < 4) (hy : y < 5) : q_falls W t y 12 = W 12 := falls_fr ht hy h.C (h.L t ht).2 (by first | exact zq_adn (by decide) | exact zq_adr (zq_adn (by decide)) | omega) (by first | exact zq_adn (by decide) | exact zq_adr (zq_adn (by decide)) | omega) (by first | exact zq_adn (by decide) | exact zq_adr (zq_adn (by decide)) | omega) (fun c e => absurd e (by first | exact zq_adn (by decide) | exact zq_adr (zq_adn (by decide)) | omega))
theorem clearsL_12 {t s : Int32} {n9 : Nat} (hn : n9 ≤ 4) : ∀ (n k : Nat) (W : Nat → Int32), k + n = n9 → WG W → (l_clears t s n9 n k W).2 12 = W 12 := by
  intro n
  induction n with
  | zero => intro k W _ _; rfl
  | succ n ih =>
    intro k W hk h
    rw [l_clears]
    exact cndi (fun q : Int32 × (Nat → Int32) => q.2 12 = W 12) (ih _ _ (by first | exact zq_adn (by decide) | exact zq_adr (zq_adn (by decide)) | omega) h) ((ih _ _ (by first | exact zq_adn (by decide) | exact zq_adr (zq_adn (by decide)) | omega) (h.falls (by first | exact zq_adn (by decide) | exact zq_adr (zq_adn (by decide)) | omega) (by first | exact zq_adn (by decide) | exact zq_adr (zq_adn (by decide)) | omega))).trans (falls_12 h (by first | exact zq_adn (by decide) | exact zq_adr (zq_adn (by decide)) | omega) (by first | exact zq_adn (by decide) | exact zq_adr (zq_adn (by decide)) | omega)))
theorem writesX_12 {w : Nat} {v : Int32} (h : WG W) : (q_writesX W w v).2 12 = W 12 := by
  unfold q_writesX
  have a : ∀ s, (q_clearsX W s).2 12 = W 12 := fun s => clearsL_12 h.N4 _ _ _ (by first | exact zq_adn (by decide) | exact zq_adr (zq_adn (by decide)) | omega) h
  exact cndi (fun q : Int32 × (Nat → Int32) => q.2 12 = W 12) ((upd_ne _ _ (by first | exact zq_adn (by decide) | exact zq_adr (zq_adn (by decide)) | omega)).trans (a _)) (a _)
theorem poke_q {w v : Int32} (h : WLT W) : QK m (q_poke m W w v) := by
  unfold q_poke
  refine cndh (QK m) (fun h0 => cndi (QK m) ?_ (thrQ h (MR.rf m).p0.thr)) (fun _ => thrQ h (MR.rf m).p0.thr)
  have hw : w.toNatClampNeg < 32 := by
    have := (in_1 (a := 0) (b := 31) (by first | exact zq_adn (by decide) | exact zq_adr (zq_adn (by decide)) | omega) (by first | exact zq_adn (by decide) | exact zq_adr (zq_adn (by decide)) | omega) h0).2.2
    omega
  exact QK.mk ⟨h.1.writesX hw v, LT_eq h.2 (writesX_12 h.1)⟩ (MR.rf m).p0
theorem tune_q {x n : Int32} (h : WLT W) : QK m (q_tune m W x n) := by
  unfold q_tune
  refine cndh (QK m) (fun h0 => cndh (QK m) (fun h1 => ?_) (fun _ => thrQ h (MR.rf m).p0.thr)) (fun _ => thrQ h (MR.rf m).p0.thr)
  obtain ⟨g1, g2, g3⟩ := in_1 (a := 1) (b := 8) (by first | exact zq_adn (by decide) | exact zq_adr (zq_adn (by decide)) | omega) (by first | exact zq_adn (by decide) | exact zq_adr (zq_adn (by decide)) | omega) h0
  revert h1 g2 g3
  generalize x.toNatClampNeg = X
  intro h1 g2 g3
  obtain ⟨a, c, e1, e2, e3, e4, e5, e6⟩ := term_bd X (by first | exact zq_adn (by decide) | exact zq_adr (zq_adn (by decide)) | omega)
  rw [e1, e2] at h1
  obtain ⟨k1, k2, k3⟩ := in_1 (a := a) (b := c) (by first | exact zq_adn (by decide) | exact zq_adr (zq_adn (by decide)) | omega) (by first | exact zq_adn (by decide) | exact zq_adr (zq_adn (by decide)) | omega) h1
  refine QK.mk ⟨h.1.low (by first | exact zq_adn (by decide) | exact zq_adr (zq_adn (by decide)) | omega) (by first | exact zq_adn (by decide) | exact zq_adr (zq_adn (by decide)) | omega) (fun q => ok_upd k1 ?_ ?_ (by first | exact zq_adn (by decide) | exact zq_adr (zq_adn (by decide)) | omega)) (fun q => ok_upd k1 ?_ ?_ (by first | exact zq_adn (by decide) | exact zq_adr (zq_adn (by decide)) | omega)) (by first | exact zq_adn (by decide) | exact zq_adr (zq_adn (by decide)) | omega) (by first | exact zq_adn (by decide) | exact zq_adr (zq_adn (by decide)) | omega) (by first | exact zq_adn (by decide) | exact zq_adr (zq_adn (by decide)) | omega), h.2.put _ (by first | exact zq_adn (by decide) | exact zq_adr (zq_adn (by decide)) | omega)⟩ (MR.rf m).p0
  · have := e5 q; omega
  · have := e5 q; omega
  · have := e6 q; omega
  · have := e6 q; omega
theorem seed_q {n : Int32} (h : WLT W) : QK m (q_seed m W n) := QK.mk ⟨h.1.put _ (fre_lo (by first | exact zq_adn (by decide) | exact zq_adr (zq_adn (by decide)) | omega) (by first | exact zq_adn (by decide) | exact zq_adr (zq_adn (by decide)) | omega)), h.2.put _ (by first | exact zq_adn (by decide) | exact zq_adr (zq_adn (by decide)) | omega)⟩ (MR.rf m).p0
theorem plain_q (h : WLT W) : QK m (q_plain m W) := by
  have d := dueBy_mr (m := zm2 m 137 0 (Int32.ofNat 0)) (b := 16) h.1 h.2
  have e := dueBy_ok (m := zm2 m 137 0 (Int32.ofNat 0)) (b := 16) h.1 h.2
  unfold q_plain
  generalize q_dueBy (zm2 m 137 0 (Int32.ofNat 0)) W 16 = c at d e ⊢
  exact QK.mk (h.of e) ((MR.rf m).p0.tr d)
theorem quickest_q {x : Int32} (h : WLT W) : QK m (q_quickest m W x) := by
  unfold q_quickest
  exact cndi (QK m) (QK.tr (MR.rf m).p0 (quickL_mr _ _ _ _ _ _ h.1 h.2)) (thrQ h (MR.rf m).p0.thr)
theorem due_q {t : Int32} (h : WLT W) : QK m (q_due m W t) := by
  have hn : MR m (q_noThread m W t).2 := MR.nt (MR.rf m)
  unfold q_due
  generalize (q_noThread m W t).2 = m1 at hn ⊢
  have f : MR (zrow m1 140 (crow W (m1 140))) (q_dueOf (zrow m1 140 (crow W (m1 140))) W t.toNatClampNeg).2.2 := dueOf_mr _ _ _ _ h.1 h.2
  have g : MF (zrow m1 140 (crow W (m1 140))) (q_dueOf (zrow m1 140 (crow W (m1 140))) W t.toNatClampNeg).2.2 := dueOf_ok _ _ _ _ h.1 h.2
  generalize q_dueOf (zrow m1 140 (crow W (m1 140))) W t.toNatClampNeg = c at f g ⊢
  exact cndi (QK m) (QK.mk (h.of (crow_back g)) ((hn.tr (MR.z140 m1 _)).tr f)) (thrQ h hn)
end ZMK
