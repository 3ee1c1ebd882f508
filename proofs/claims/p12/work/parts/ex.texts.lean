/-! reading leaves the count of texts alone -/
noncomputable def R10 (c : Int32) (X : Int32 × (Nat → Int32) × Nat × Nat) : Prop := X.2.1 10 = c
section ZR0
variable {m : Nat → Nat → Int32} {W : Nat → Int32} {p b t : Nat} {c : Int32}
theorem R10.mk {v : Int32} (h : W 10 = c) : R10 c (v, W, p, b) := h
theorem R10.eta {X : Int32 × (Nat → Int32) × Nat × Nat} (h : R10 c X) : R10 c (X.1, X.2.1, X.2.2.1, X.2.2.2) := h
theorem R10.m2 {X : Int32 × (Nat → Int32) × Nat × Nat} {v : Int32} (h : R10 c X) : R10 c (v, X.2.1, p, b) := h
theorem u10 {k : Nat} {x : Int32} (hk : 10 ≠ k) (h : W 10 = c) : upd W k x 10 = c := (upd_ne _ _ hk).trans h
theorem readTo_10 {k : Nat} {lo hi : Int32} (hk : 10 ≠ k) (h : W 10 = c) : R10 c (q_readTo m W p k lo hi) := by
  unfold q_readTo
  exact cndi (R10 c) (R10.mk h) (R10.mk (u10 hk h))
theorem readDeed_10 {L : Nat} (h : W 10 = c) : R10 c (q_readDeed m W p t L) := by
  unfold q_readDeed
  repeat' (refine cndi (R10 c) ?_ ?_)
  all_goals first
    | (refine R10.mk ?_; (repeat' (first | refine u10 (by first | exact zq_adn (by decide) | exact zq_adr (zq_adn (by decide)) | omega) ?_ | exact h)); done)
    | (repeat' (first | exact h | refine u10 (by first | exact zq_adn (by decide) | exact zq_adr (zq_adn (by decide)) | omega) ?_))
theorem deeds_10 : ∀ (n L : Nat) (W : Nat → Int32) (p b : Nat), W 10 = c → R10 c (l_deeds m t n L W p b) := by
  intro n
  induction n with
  | zero => intro L W p b h; rw [l_deeds]; exact R10.m2 (readDeed_10 h)
  | succ n ih =>
    intro L W p b h
    have r : R10 c (q_readDeed m W p t L) := readDeed_10 h
    rw [l_deeds]
    generalize q_readDeed m W p t L = X at r ⊢
    exact cndi (R10 c) (cndi (R10 c) (ih _ _ _ _ r) (R10.m2 r)) (R10.m2 r)
theorem rclears_10 : ∀ (n k : Nat) (W : Nat → Int32), W 10 = c → R10 c (l_rclears m p b t n k W) := by
  intro n
  induction n with
  | zero => intro k W h; rw [l_rclears]; unfold q_thread37; exact deeds_10 _ _ _ _ _ (u10 (by first | exact zq_adn (by decide) | exact zq_adr (zq_adn (by decide)) | omega) h)
  | succ n ih => intro k W h; rw [l_rclears]; exact ih _ _ (u10 (by first | exact zq_adn (by decide) | exact zq_adr (zq_adn (by decide)) | omega) h)
theorem readThread_10 (h : W 10 = c) : R10 c (q_readThread m W p b) := by
  unfold q_readThread
  exact cndi (R10 c) (rclears_10 _ _ _ h) (R10.mk h)
theorem readWordLine_10 (h : W 10 = c) : R10 c (q_readWordLine m W p) := by
  unfold q_readWordLine
  repeat' (refine cndi (R10 c) ?_ ?_)
  all_goals first
    | (refine R10.mk ?_; (repeat' (first | refine u10 (by first | exact zq_adn (by decide) | exact zq_adr (zq_adn (by decide)) | omega) ?_ | exact h)); done)
    | (repeat' (first | exact h | refine u10 (by first | exact zq_adn (by decide) | exact zq_adr (zq_adn (by decide)) | omega) ?_))
theorem readLockL_10 {l w : Int32} (h : W 10 = c) : ∀ (n : Nat) (is : Int32) (o : Nat), (l_readLock W l w n is o).2 10 = c := by
  intro n
  induction n with
  | zero => intro is o; rw [l_readLock]; exact cndi (fun q : Int32 × (Nat → Int32) => q.2 10 = c) h (u10 (by first | exact zq_adn (by decide) | exact zq_adr (zq_adn (by decide)) | omega) h)
  | succ n ih => intro is o; rw [l_readLock]; exact cndi (fun q : Int32 × (Nat → Int32) => q.2 10 = c) h (cndi (fun q : Int32 × (Nat → Int32) => q.2 10 = c) (ih _ _) (cndi (fun q : Int32 × (Nat → Int32) => q.2 10 = c) (ih _ _) (ih _ _)))
theorem readLock_10 (h : W 10 = c) : R10 c (q_readLock m W p) := by
  have a : ∀ (l w : Int32) (n : Nat) (is : Int32) (o : Nat), (l_readLock W l w n is o).2 10 = c := fun l w n is o => readLockL_10 h n is o
  unfold q_readLock
  repeat' (refine cndi (R10 c) ?_ ?_)
  all_goals first
    | exact R10.mk h
    | exact R10.mk (a _ _ _ _ _)
theorem readTrustL_10 {v : Int32} : ∀ (n l : Nat) (W : Nat → Int32), W 10 = c → (l_readTrust v n l W).2 10 = c := by
  intro n
  induction n with
  | zero => intro l W h; rw [l_readTrust]; exact cndi (fun q : Int32 × (Nat → Int32) => q.2 10 = c) h h
  | succ n ih => intro l W h; rw [l_readTrust]; exact cndi (fun q : Int32 × (Nat → Int32) => q.2 10 = c) h (ih _ _ (u10 (by first | exact zq_adn (by decide) | exact zq_adr (zq_adn (by decide)) | omega) h))
theorem readTrust_10 (h : W 10 = c) : R10 c (q_readTrust m W p) := by
  unfold q_readTrust
  exact R10.mk (readTrustL_10 _ _ _ h)
theorem readLine_10 (h : W 10 = c) : R10 c (q_readLine m W p b) := by
  have u8 : ∀ x, R10 c (Int32.ofNat 1, upd W 8 x, p, b) := fun x => R10.mk (u10 (by first | exact zq_adn (by decide) | exact zq_adr (zq_adn (by decide)) | omega) h)
  have no : ∀ (v : Int32) (p b : Nat), R10 c (v, W, p, b) := fun v p b => R10.mk h
  unfold q_readLine
  refine cnd4 (R10 c) (fun _ => cnd4 (R10 c) (fun _ => cnd4 (R10 c) (fun _ => cnd4 (R10 c) (fun _ => cnd4 (R10 c) (fun _ => ?_) (fun _ => ?_)) (fun _ => ?_)) (fun _ => ?_)) (fun _ => ?_)) (fun _ => ?_)
  · refine cnd4 (R10 c) (fun _ => cnd4 (R10 c) (fun _ => u8 _) (fun _ => u8 _)) (fun _ => cnd4 (R10 c) (fun _ => cnd4 (R10 c) (fun _ => no _ _ _) (fun ht => ?_)) (fun _ => cnd4 (R10 c) (fun _ => u8 _) (fun _ => u8 _)))
    have hT := (termHere_k ht).2
    have r : ∀ lo hi, R10 c (q_readTo m W p (q_termHere m p b).toNatClampNeg lo hi) := fun lo hi => readTo_10 (by first | exact zq_adn (by decide) | exact zq_adr (zq_adn (by decide)) | omega) h
    exact cnd4 (R10 c) (fun _ => R10.m2 (r _ _)) (fun _ => R10.m2 (r _ _))
  · have r : ∀ lo hi, R10 c (q_readTo m W p 0 lo hi) := fun lo hi => readTo_10 (by first | exact zq_adn (by decide) | exact zq_adr (zq_adn (by decide)) | omega) h
    exact cnd4 (R10 c) (fun _ => no _ _ _) (fun _ => cnd4 (R10 c) (fun _ => R10.m2 (r _ _)) (fun _ => R10.m2 (r _ _)))
  · exact R10.eta (readTrust_10 h)
  · exact R10.eta (readLock_10 h)
  · exact R10.eta (readWordLine_10 h)
  · exact R10.eta (readThread_10 h)
theorem readTextL_10 : ∀ (n k : Nat) (W : Nat → Int32) (p b : Nat), W 10 = c → R10 c (l_readText m n k W p b) := by
  intro n
  induction n with
  | zero => intro k W p b h; rw [l_readText]; exact R10.mk h
  | succ n ih =>
    intro k W p b h
    have r : R10 c (q_readLine m W (q_letters m p).1 (q_letters m p).2) := readLine_10 h
    rw [l_readText]
    generalize q_readLine m W (q_letters m p).1 (q_letters m p).2 = X at r ⊢
    repeat' (refine cndi (R10 c) ?_ ?_)
    all_goals first
      | exact ih _ _ _ _ r
      | exact R10.m2 r
theorem readText_10 (h : W 10 = c) : R10 c (q_readText m W p) := by
  unfold q_readText
  exact cndi (R10 c) (readTextL_10 _ _ _ _ _ h) (R10.mk h)
end ZR0
