/-! reading a text changes the draft alone -/
noncomputable def YF (P : Nat → Nat → Int32) (X : Int32 × (Nat → Nat → Int32) × Nat × Nat) : Prop := FB X.2.1 43 P
theorem YF.mk {P : Nat → Nat → Int32} {v : Int32} {m : Nat → Nat → Int32} {p b : Nat} (h : FB m 43 P) : YF P (v, m, p, b) := h
section ZYF
variable {T : Nat → Int32} {e : Nat} {m P : Nat → Nat → Int32} {p b t : Nat}
theorem readTerm_YF (h : FB m 43 P) : YF P (y_readTerm T e m p b t) := by
  have a : ∀ lo hi x, YF P (Int32.ofNat 1, zm2 m (43 + 3) t x, (y_readNumber T e p lo hi).2.1, (y_readNumber T e p lo hi).2.2) := fun lo hi x => YF.mk (h.put _ ⟨by omega, by omega⟩)
  have c : ∀ lo hi, YF P (Int32.ofNat 0, m, (y_readNumber T e p lo hi).2.1, (y_readNumber T e p lo hi).2.2) := fun lo hi => YF.mk h
  unfold y_readTerm
  exact cnd4 (YF P) (fun _ => cnd4 (YF P) (fun _ => a _ _ _) (fun _ => c _ _)) (fun _ => cnd4 (YF P) (fun _ => cnd4 (YF P) (fun _ => a _ _ _) (fun _ => c _ _)) (fun _ => YF.mk h))
theorem readTrustL_YF {v : Int32} : ∀ (n l : Nat) (m : Nat → Nat → Int32), l + n = 4 → FB m 43 P → FB (yl_readTrust v n l m).2 43 P := by
  intro n
  induction n with
  | zero => intro l m _ h; exact h
  | succ n ih => intro l m hk h; exact ih _ _ (by first | exact zq_adn (by decide) | exact zq_adr (zq_adn (by decide)) | omega) (h.put _ ⟨by omega, by omega⟩)
theorem readTrust_YF (h : FB m 43 P) : YF P (y_readTrust T e m p) := by
  unfold y_readTrust
  exact cnd4 (YF P) (fun _ => YF.mk (readTrustL_YF 4 0 m rfl h)) (fun _ => YF.mk h)
theorem readWord_YF (h : FB m 43 P) : YF P (y_readWord T e m p) := by
  unfold y_readWord
  exact cnd4 (YF P) (fun _ => cnd4 (YF P) (fun _ => YF.mk ((h.put _ ⟨by omega, by omega⟩).put _ ⟨by omega, by omega⟩)) (fun _ => YF.mk h)) (fun _ => YF.mk h)
theorem readLock_YF (h : FB m 43 P) : YF P (y_readLock T e m p) := by
  unfold y_readLock
  refine cnd4 (YF P) (fun _ => YF.mk h) (fun k1 => cnd4 (YF P) (fun _ => cnd4 (YF P) (fun _ => YF.mk h) (fun k3 => cnd4 (YF P) (fun _ => ?_) (fun _ => YF.mk h))) (fun _ => YF.mk h))
  have g1 := ynum_k (by first | exact zq_adn (by decide) | exact zq_adr (zq_adn (by decide)) | omega) (by first | exact zq_adn (by decide) | exact zq_adr (zq_adn (by decide)) | omega) (zeq_f k1)
  exact YF.mk (h.put _ ⟨by omega, by omega⟩)
theorem FB.addDeed {x y : Int32} (h : FB m 43 P) (ht : t < 4) : FB (x_addDeed m 43 t x y) 43 P := fun i l hi => (addDeed_ne (by first | exact zq_adn (by decide) | exact zq_adr (zq_adn (by decide)) | omega)).trans (h i l hi)
theorem FB.clear (h : FB m 43 P) (ht : t < 4) : FB (x_clear m 43 t) 43 P := fun i l hi => (clear_ne (by first | exact zq_adn (by decide) | exact zq_adr (zq_adn (by decide)) | omega)).trans (h i l hi)
theorem readDeed_YF (ht : t < 4) (h : FB m 43 P) : YF P (y_readDeed T e m p t) := by
  have hx : ∀ x y, FB (x_addDeed m 43 t x y) 43 P := fun x y => h.addDeed ht
  unfold y_readDeed
  exact cnd4 (YF P) (fun _ => YF.mk h) (fun _ => cnd4 (YF P) (fun _ => cnd4 (YF P) (fun _ => cnd4 (YF P) (fun _ => YF.mk (hx _ _)) (fun _ => YF.mk h)) (fun _ => YF.mk (hx _ _))) (fun _ => YF.mk h))
theorem prog_YF (ht : t < 4) : ∀ (n k : Nat) (m : Nat → Nat → Int32) (p b : Nat), FB m 43 P → YF P (yl_prog T e t n k m p b) := by
  intro n
  induction n with
  | zero => intro k m p b h; exact YF.mk h
  | succ n ih =>
    intro k m p b h
    have r : FB (y_readDeed T e m p t).2.1 43 P := readDeed_YF ht h
    unfold yl_prog
    exact cnd4 (YF P) (fun _ => cnd4 (YF P) (fun _ => ih _ _ _ _ r) (fun _ => YF.mk r)) (fun _ => YF.mk r)
theorem readProgram_YF (h : FB m 43 P) (hc : CG m 43) : YF P (y_readProgram T e m p b) := by
  unfold y_readProgram
  refine cnd4 (YF P) (fun h4 => ?_) (fun _ => YF.mk h)
  have h5 := hc.c4
  have hlt := zlt_t4 (by first | exact zq_adn (by decide) | exact zq_adr (zq_adn (by decide)) | omega) (by first | exact zq_adn (by decide) | exact zq_adr (zq_adn (by decide)) | omega) h4
  exact prog_YF hlt _ _ _ _ _ ((h.clear hlt).put _ ⟨by omega, by omega⟩)
theorem line_YF {K : Nat} (h : FB m 43 P) (hc : CG m 43) : YF P (y_line T e m p b K) := by
  have u : ∀ x, YF P (Int32.ofNat 1, zm2 m (43 + 3) 8 x, p, b) := fun x => YF.mk (h.put _ ⟨by omega, by omega⟩)
  unfold y_line
  split
  · exact readTrust_YF h
  · exact readWord_YF h
  · exact u _
  · exact u _
  · exact readLock_YF h
  · split
    · exact readTerm_YF h
    · exact readProgram_YF h hc
theorem readLine_YF (h : FB m 43 P) (hc : CG m 43) : YF P (y_readLine T e m p) := by
  unfold y_readLine
  exact cnd4 (YF P) (fun _ => YF.mk h) (fun _ => line_YF h hc)
/-- the whole of a reading: the draft in order, nothing else touched, the answer none or a place -/
noncomputable def YA (T : Nat → Int32) (e : Nat) (P : Nat → Nat → Int32) (X : Int32 × (Nat → Nat → Int32) × Nat × Nat) : Prop := XR X.2.1 T e ∧ CG X.2.1 43 ∧ KX X.2.1 43 P0 ∧ FB X.2.1 43 P ∧ X.2.2.1 ≤ e ∧ X.2.2.2 ≤ e
theorem YA.mk {v : Int32} (h0 : XR m T e) (h4 : CG m 43) (h5 : KX m 43 P0) (h : FB m 43 P) (hp : p ≤ e) (hb : b ≤ e) : YA T e P (v, m, p, b) := ⟨h0, h4, h5, h, hp, hb⟩
theorem all_YA : ∀ (n k : Nat) (m : Nat → Nat → Int32) (p b : Nat), XR m T e → p ≤ e → CG m 43 → KX m 43 P0 → FB m 43 P → YA T e P (yl_all T e n k m p b) := by
  intro n
  induction n with
  | zero =>
    intro k m p b hG hp hc hk h
    have g := lkB_le (T := T) hG.2.2 hp
    exact YA.mk hG hc hk h g.2 g.2
  | succ n ih =>
    intro k m p b hG hp hc hk h
    obtain ⟨⟨r1, r2, r3, r4⟩, r5, r6⟩ := readLine_YC (T := T) (e := e) hG hp hc hk
    have r7 : FB (y_readLine T e m p).2.1 43 P := readLine_YF h hc
    have g := lkB_le (T := T) hG.2.2 r2
    have g2 := yskip_le (T := T) (c := 59) hG.2.2 g.2
    unfold yl_all
    exact cnd4 (YA T e P) (fun _ => cnd4 (YA T e P) (fun _ => cnd4 (YA T e P) (fun _ => ih _ _ _ _ r1 g2.2 r5 r6 r7) (fun _ => YA.mk r1 r5 r6 r7 g2.2 g.2)) (fun _ => YA.mk r1 r5 r6 r7 g.2 g.2)) (fun _ => YA.mk r1 r5 r6 r7 r2 (by first | exact zq_adn (by decide) | exact zq_adr (zq_adn (by decide)) | omega))
theorem readAll_YA (hG : XR m T e) (hp : p ≤ e) (hc : CG m 43) (hk : KX m 43 P0) (h : FB m 43 P) : YA T e P (y_readAll18 T e m p) := by
  unfold y_readAll18
  have g := lkB_le (T := T) hG.2.2 hp
  exact cnd4 (YA T e P) (fun _ => all_YA _ _ _ _ _ hG g.2 hc hk h) (fun _ => YA.mk hG hc hk h g.2 g.2)
end ZYF
