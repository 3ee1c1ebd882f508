/-! a step keeps the order -/
theorem WG.stepsE {W : Nat → Int32} {m : Nat → Nat → Int32} (h : WG W) (t : Nat) (on : Int32) : WG (q_stepsE m W t on).2 := by
  have h1 : WG (upd (upd W 12 (Int32.ofNat t)) 11 (upd W 12 (Int32.ofNat t) 11 + Int32.ofNat 1)) := (h.put _ (fre_lo (by first | exact zq_adn (by decide) | exact zq_adr (zq_adn (by decide)) | omega) (by first | exact zq_adn (by decide) | exact zq_adr (zq_adn (by decide)) | omega))).put _ (fre_lo (by first | exact zq_adn (by decide) | exact zq_adr (zq_adn (by decide)) | omega) (by first | exact zq_adn (by decide) | exact zq_adr (zq_adn (by decide)) | omega))
  unfold q_stepsE
  exact cndi (fun q : Int32 × (Nat → Int32) => WG q.2) (cndi (fun q : Int32 × (Nat → Int32) => WG q.2) h1 h1) h1
theorem stepsE_12 {W : Nat → Int32} {m : Nat → Nat → Int32} {t : Nat} {on : Int32} : (q_stepsE m W t on).2 12 = Int32.ofNat t := by
  have h1 : upd (upd W 12 (Int32.ofNat t)) 11 (upd W 12 (Int32.ofNat t) 11 + Int32.ofNat 1) 12 = Int32.ofNat t := by rw [upd_ne _ _ (by first | exact zq_adn (by decide) | exact zq_adr (zq_adn (by decide)) | omega), upd_at]
  unfold q_stepsE
  exact cndi (fun q : Int32 × (Nat → Int32) => q.2 12 = Int32.ofNat t) (cndi (fun q : Int32 × (Nat → Int32) => q.2 12 = Int32.ofNat t) h1 h1) h1
theorem stepsE_9 {W : Nat → Int32} {m : Nat → Nat → Int32} {t : Nat} {on : Int32} : (q_stepsE m W t on).2 9 = W 9 := by
  have h1 : upd (upd W 12 (Int32.ofNat t)) 11 (upd W 12 (Int32.ofNat t) 11 + Int32.ofNat 1) 9 = W 9 := by rw [upd_ne _ _ (by first | exact zq_adn (by decide) | exact zq_adr (zq_adn (by decide)) | omega), upd_ne _ _ (by first | exact zq_adn (by decide) | exact zq_adr (zq_adn (by decide)) | omega)]
  unfold q_stepsE
  exact cndi (fun q : Int32 × (Nat → Int32) => q.2 9 = W 9) (cndi (fun q : Int32 × (Nat → Int32) => q.2 9 = W 9) h1 h1) h1
/-- what a step leaves: order, whose turn it was -/
noncomputable def SO (t : Nat) (q : QT) : Prop := WG q.2.1 ∧ q.2.1 12 = Int32.ofNat t
theorem stepsD_ok {W : Nat → Int32} {m : Nat → Nat → Int32} {t : Nat} {on : Int32} (h : WG W) (ht : t < 4) : SO t (q_stepsD m W t on) := by
  have aE : ∀ (V : Nat → Int32) (m : Nat → Nat → Int32), WG V → WG (q_stepsE m V t on).2 ∧ (q_stepsE m V t on).2 12 = Int32.ofNat t := fun V m hV => ⟨hV.stepsE t on, stepsE_12⟩
  have a0 := aE W m h
  have a1 := aE _ m (h.logs (Int32.ofNat t) (Int32.ofNat 6) (Int32.ofNat 0))
  have a2 := aE (q_itFalls m W t 2).1 (q_itFalls m W t 2).2 (h.falls ht (by first | exact zq_adn (by decide) | exact zq_adr (zq_adn (by decide)) | omega))
  unfold q_stepsD
  generalize q_stepsE m W t on = c0 at a0 ⊢
  generalize q_stepsE m (q_logs W (Int32.ofNat t) (Int32.ofNat 6) (Int32.ofNat 0)) t on = c1 at a1 ⊢
  generalize q_stepsE (q_itFalls m W t 2).2 (q_itFalls m W t 2).1 t on = c2 at a2 ⊢
  first
    | exact cndi (SO t) a0 (cndi (SO t) a1 a2)
    | exact cndi (SO t) (cndi (SO t) a0 a1) (cndi (SO t) (cndi (SO t) a0 a1) a2)
theorem steps_ok {W : Nat → Int32} {m : Nat → Nat → Int32} {t : Nat} (h : KG W t) (ht : t < 4) : SO t (q_steps m W t) := by
  have aD := does_ok (m := zm2 m 137 5 (Int32.ofNat 0)) h ht (Nat.lt_succ_of_le (h.deed ht).2.1.2.2) (h.deed ht).2.2.2.1 (h.deed ht).2.2.2.2
  unfold q_steps
  generalize q_does (zm2 m 137 5 (Int32.ofNat 0)) W t (nv W (376 + 103 * t + (55 + 2 * nv W (376 + 103 * t + 0)))) (nv W (376 + 103 * t + (55 + 2 * nv W (376 + 103 * t + 0) + 1))) = c at aD ⊢
  refine cndi (SO t) ⟨aD.1.1.stepsE t _, stepsE_12⟩ ?_
  exact stepsD_ok (aD.1.adv ht) ht
