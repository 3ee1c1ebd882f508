/-! a text that is read through leaves the world in order -/
theorem WG.low {W : Nat → Int32} (h : WG W) {k : Nat} {x : Int32} (hk : k < 24) (h0 : k = 0 → ok (upd W k x) k 1 8) (h2 : k = 2 → ok (upd W k x) k 1 4) (h7 : k = 7 → ok (upd W k x) k 1 9) (h9 : k = 9 → ok (upd W k x) k 0 4) (h14 : k ≠ 14 ∧ k ≠ 15) (hl : 16 ≤ k → k < 20 → ok (upd W k x) k 0 31) : WG (upd W k x) := by
  obtain ⟨⟨a0, a2, a7, a9, a14, a15, aK⟩, hT⟩ := h
  have key : ∀ {c lo hi : Nat}, ok W c lo hi → (k = c → ok (upd W k x) k lo hi) → ok (upd W k x) c lo hi := by
    intro c lo hi h1 h2
    by_cases e : k = c
    · subst e; exact h2 rfl
    · exact h1.of (upd_ne _ _ (fun q => e q.symm))
  refine ⟨⟨key a0 h0, key a2 h2, key a7 h7, key a9 h9, key a14 (fun e => absurd e h14.1), key a15 (fun e => absurd e h14.2), fun l hl4 => key (aK l hl4) (fun e => hl (by omega) (by omega))⟩, fun t ht => (hT t ht).same (fun c hc _ => upd_ne _ _ (by omega))⟩
theorem ok_upd {W : Nat → Int32} {k n lo hi : Nat} {x : Int32} (e : x = Int32.ofNat n) (h1 : lo ≤ n) (h2 : n ≤ hi) (h3 : hi ≤ 100000) : ok (upd W k x) k lo hi := ok.is (n := n) (by rw [upd_at]; exact e) h1 h2 (by omega)
/-- one more deed -/
theorem WG.deed {W V : Nat → Int32} (h : WG W) {t L : Nat} (ht : t < 4) (hL : nv W (376 + 103 * t + 22) = L) (hL2 : L < 24) (e : ∀ c, c ≠ 376 + 103 * t + 22 → c ≠ 376 + 103 * t + (55 + 2 * L) → c ≠ 376 + 103 * t + (55 + 2 * L + 1) → V c = W c) (h22 : V (376 + 103 * t + 22) = Int32.ofNat (L + 1)) (hD : DG V t L) : WG V := by
  refine ⟨h.1.of (fun j hj hc => e _ (by omega) (by omega) (by omega)) (WC_of (e _ (by omega) (by omega) (by omega)) h.C), fun u hu => ?_⟩
  by_cases hut : u = t
  · subst hut
    obtain ⟨b1, b2, b3, b4, b5, b6, b7, b8⟩ := h.2 u hu
    have hn : nv V (376 + 103 * u + 22) = L + 1 := by unfold nv; rw [h22]; exact nv_on (by omega)
    have e' : ∀ c, c < 55 → c ≠ 22 → V (376 + 103 * u + c) = W (376 + 103 * u + c) := fun c hc h22 => e _ (by omega) (by omega) (by omega)
    refine ⟨b1.of (e' _ (by omega) (by omega)), b2.of (e' _ (by omega) (by omega)), fun k hk => (b3 k hk).of (e' _ (by omega) (by omega)), ok.is h22 (by omega) (by omega) (by omega), ?_, ?_, ?_, fun p hp => ?_⟩
    · rw [hn]
      have := b5.of (e' 0 (by omega) (by omega))
      exact ⟨this.1, this.2.1, by have := this.2.2; omega⟩
    · rw [hn]
      have := b6.of (e' 18 (by omega) (by omega))
      exact ⟨this.1, this.2.1, by have := this.2.2; omega⟩
    · rw [e' 2 (by omega) (by omega), e' 10 (by omega) (by omega)]
      exact b7
    · by_cases hpL : p = L
      · subst hpL; exact hD
      · exact (b8 p hp).of (e _ (by omega) (by omega) (by omega)) (e _ (by omega) (by omega) (by omega))
  · exact (h.2 u hu).same (fun c hc _ => e _ (by omega) (by omega) (by omega))
theorem readDeed_WG {m : Nat → Nat → Int32} {W : Nat → Int32} {p t L : Nat} (hW : WG W) (ht : t < 4) (hL : W (376 + 103 * t + 22) = Int32.ofNat L) (hL2 : L ≤ 24) (h : ¬ (q_readDeed m W p t L).1 = 0) : WG (q_readDeed m W p t L).2.1 := by
  obtain ⟨K, n, g1, g2, g3, g4, g5, g6⟩ := readDeed_s h
  rw [g6]
  have eL : nv W (376 + 103 * t + 22) = L := by unfold nv; rw [hL]; exact nv_on (by omega)
  refine hW.deed ht eL (by omega) (fun c a1 a2 a3 => ?_) ?_ ?_
  · rw [upd_ne _ _ (by omega), upd_ne _ _ (by omega), upd_ne _ _ (by omega), upd_ne _ _ (by omega)]
  · rw [upd_ne _ _ (by omega), upd_at]
  · have e1 : upd (upd (upd (upd W (376 + 103 * t + (55 + 2 * L)) (Int32.ofNat K)) (376 + 103 * t + (55 + 2 * L) + 1) (Int32.ofNat 0)) (376 + 103 * t + 22) (Int32.ofNat (L + 1))) (376 + 103 * t + (55 + 2 * L) + 1) (Int32.ofNat n) (376 + 103 * t + (55 + 2 * L)) = Int32.ofNat K := by
      rw [upd_ne _ _ (by omega), upd_ne _ _ (by omega), upd_ne _ _ (by omega), upd_at]
    have e2 : upd (upd (upd (upd W (376 + 103 * t + (55 + 2 * L)) (Int32.ofNat K)) (376 + 103 * t + (55 + 2 * L) + 1) (Int32.ofNat 0)) (376 + 103 * t + 22) (Int32.ofNat (L + 1))) (376 + 103 * t + (55 + 2 * L) + 1) (Int32.ofNat n) (376 + 103 * t + (55 + 2 * L + 1)) = Int32.ofNat n := upd_at _ _ _
    refine ⟨ok.is e1 (by omega) g1 (by omega), ok.is e2 (by omega) g2 (by omega), ?_⟩
    unfold nv
    rw [e1, e2, nv_on (by omega), nv_on (by omega)]
    exact ⟨g3, g4⟩
/-- a reading that went well leaves the world in order -/
noncomputable def RW (X : Int32 × (Nat → Int32) × Nat × Nat) : Prop := ¬ X.1 = 0 → WG X.2.1
theorem RW.no {W : Nat → Int32} {p b : Nat} : RW (Int32.ofNat 0, W, p, b) := fun h => absurd rfl h
theorem RW.mk {v : Int32} {W : Nat → Int32} {p b : Nat} (h : WG W) : RW (v, W, p, b) := fun _ => h
theorem RW.eta {X : Int32 × (Nat → Int32) × Nat × Nat} (h : RW X) : RW (X.1, X.2.1, X.2.2.1, X.2.2.2) := h
theorem deeds_WG {m : Nat → Nat → Int32} {t : Nat} (ht : t < 4) : ∀ (n L : Nat) (W : Nat → Int32) (p b : Nat), L + n = 24 → WG W → W (376 + 103 * t + 22) = Int32.ofNat L → RW (l_deeds m t n L W p b) := by
  intro n
  induction n with
  | zero => intro L W p b _ _ _; exact RW.no
  | succ n ih =>
    intro L W p b hk hW hL
    unfold l_deeds
    refine cnd4 RW (fun h1 => ?_) (fun _ => RW.no)
    have hV := readDeed_WG (m := m) (p := p) hW ht hL (by omega) (ne1 h1)
    have hL' := readDeed_L (by omega) h1
    exact cnd4 RW (fun _ => ih _ _ _ _ (by omega) hV hL'.1) (fun _ => RW.mk hV)
theorem WG.fresh {W V : Nat → Int32} (h : WG W) {t : Nat} (ht : t < 4) (e : ∀ c, c < 376 + 103 * t ∨ 376 + 103 * t + 103 ≤ c → c ≠ 9 → V c = W c) (h9 : V 9 = Int32.ofNat (t + 1)) (hz : ∀ c, c < 103 → V (376 + 103 * t + c) = Int32.ofNat 0) : WG V := by
  obtain ⟨⟨a0, a2, a7, a9, a14, a15, aK⟩, hT⟩ := h
  refine ⟨⟨a0.of (e _ (by omega) (by omega)), a2.of (e _ (by omega) (by omega)), a7.of (e _ (by omega) (by omega)), ok.is h9 (by omega) (by omega) (by omega), a14.of (e _ (by omega) (by omega)), a15.of (e _ (by omega) (by omega)), fun l hl => (aK l hl).of (e _ (by omega) (by omega))⟩, fun u hu => ?_⟩
  by_cases hut : u = t
  · subst hut
    have z : ∀ c, c < 103 → nv V (376 + 103 * u + c) = 0 := fun c hc => by unfold nv; rw [hz c hc]; rfl
    refine ⟨ok.is (hz 2 (by omega)) (by omega) (by omega) (by omega), ok.is (hz 10 (by omega)) (by omega) (by omega) (by omega), fun k hk => ok.is (hz _ (by omega)) (by omega) (by omega) (by omega), ok.is (hz 22 (by omega)) (by omega) (by omega) (by omega), ok.is (hz 0 (by omega)) (by omega) (by omega) (by omega), ok.is (hz 18 (by omega)) (by omega) (by omega) (by omega), fun _ => hz 10 (by omega), fun p hp => ⟨ok.is (hz _ (by omega)) (by omega) (by omega) (by omega), ok.is (hz (55 + 2 * p + 1) (by omega)) (by omega) (by omega) (by omega), fun _ => ?_, fun _ => ?_⟩⟩
    · rw [z (55 + 2 * p + 1) (by omega)]; omega
    · rw [z (55 + 2 * p + 1) (by omega)]; omega
  · exact (hT u hu).same (fun c hc _ => e _ (by omega) (by omega))
theorem rclears_WG {m : Nat → Nat → Int32} {p b t : Nat} {W0 : Nat → Int32} (hW : WG W0) (ht : t < 4) : ∀ (n k : Nat) (W : Nat → Int32), k + n = 103 → (∀ c, c < 376 + 103 * t ∨ 376 + 103 * t + 103 ≤ c → W c = W0 c) → (∀ c, c < k → W (376 + 103 * t + c) = Int32.ofNat 0) → RW (l_rclears m p b t n k W) := by
  intro n
  induction n with
  | zero =>
    intro k W hk e hz
    have hz0 : ∀ c, c < 103 → upd W 9 (Int32.ofNat (t + 1)) (376 + 103 * t + c) = Int32.ofNat 0 := fun c hc => by rw [upd_ne _ _ (by omega)]; exact hz c (by omega)
    unfold l_rclears q_thread37
    exact deeds_WG ht 24 0 _ _ _ (by omega) (hW.fresh ht (fun c hc h9 => by rw [upd_ne _ _ h9]; exact e c hc) (upd_at _ _ _) hz0) (hz0 22 (by omega))
  | succ n ih =>
    intro k W hk e hz
    unfold l_rclears
    exact ih _ _ (by omega) (fun c hc => by rw [upd_ne _ _ (by omega)]; exact e c hc) (clr_step hz)
theorem readThread_WG {m : Nat → Nat → Int32} {W : Nat → Int32} {p b : Nat} (hW : WG W) : RW (q_readThread m W p b) := by
  unfold q_readThread
  refine cnd4 RW (fun h4 => ?_) (fun _ => RW.no)
  have := tne_t h4
  have := hW.N4
  exact rclears_WG hW (by omega) _ _ _ (by omega) (fun _ _ => rfl) (fun c hc => absurd hc (Nat.not_lt_zero _))
theorem readWordLine_WG {m : Nat → Nat → Int32} {W : Nat → Int32} {p : Nat} (hW : WG W) : RW (q_readWordLine m W p) := by
  unfold q_readWordLine
  refine cnd4 RW (fun h1 => cnd4 RW (fun _ => ?_) (fun _ => RW.no)) (fun _ => RW.no)
  have := number_k (by omega) (by omega) (zne_t h1)
  exact RW.mk ((hW.put _ (fre_lo (by omega) (by omega))).put _ (fre_lo (by omega) (by omega)))
theorem readLock_in {W : Nat → Int32} {l w : Int32} (P : (Nat → Int32) → Prop) (h0 : P W) (h1 : P (upd W (16 + l.toNatClampNeg) w)) : ∀ (n : Nat) (is : Int32) (o : Nat), P (l_readLock W l w n is o).2 := by
  intro n
  induction n with
  | zero =>
    intro is o
    unfold l_readLock
    cases zc1 .eq is with
    | true => exact h0
    | false => exact h1
  | succ n ih =>
    intro is o
    unfold l_readLock
    cases zc1 .eq is with
    | true => exact h0
    | false =>
      rw [cond_false]
      cases zc2 .eq (Int32.ofNat o) l with
      | true => exact ih _ _
      | false =>
        rw [cond_false]
        cases zc2 .eq (W (16 + o)) w with
        | true => exact ih _ _
        | false => exact ih _ _
theorem readLock_0 {W : Nat → Int32} {l w : Int32} (n o : Nat) : (l_readLock W l w n (Int32.ofNat 0) o).2 = W ∧ (l_readLock W l w n (Int32.ofNat 0) o).1 = 0 := by
  cases n with
  | zero => exact ⟨rfl, rfl⟩
  | succ n => exact ⟨rfl, rfl⟩
theorem readLock_WG {m : Nat → Nat → Int32} {W : Nat → Int32} {p : Nat} (hW : WG W) : RW (q_readLock m W p) := by
  unfold q_readLock
  refine cnd4 RW (fun h1 => cnd4 RW (fun _ => cnd4 RW (fun _ => ?_) (fun h2 => ?_)) (fun _ => RW.no)) (fun _ => RW.no)
  · exact fun h => absurd (readLock_0 _ _).2 h
  · have k1 := number_k (by omega) (by omega) (zne_t h1)
    have k2 := number_k (by omega) (by omega) (zeq_f h2)
    exact RW.mk (readLock_in WG hW (hW.low (by omega) (by omega) (by omega) (by omega) (by omega) (by omega) (fun _ _ => ok_upd k2.1 (by omega) k2.2.1 (by omega))) _ _ _)
theorem readTrust_in {v : Int32} (P : (Nat → Int32) → Prop) (hP : ∀ W l, l < 4 → P W → P (upd W (20 + l) v)) : ∀ (n l : Nat) (W : Nat → Int32), l + n = 4 → P W → P (l_readTrust v n l W).2 := by
  intro n
  induction n with
  | zero =>
    intro l W _ h
    unfold l_readTrust
    cases zc2 .eq v (-1) with
    | true => exact h
    | false => exact h
  | succ n ih =>
    intro l W hk h
    unfold l_readTrust
    cases zc2 .eq v (-1) with
    | true => exact h
    | false => exact ih _ _ (by omega) (hP _ _ (by omega) h)
theorem readTrust_WG {m : Nat → Nat → Int32} {W : Nat → Int32} {p : Nat} (hW : WG W) : WG (q_readTrust m W p).2.1 := readTrust_in WG (fun V l hl hV => hV.put _ (fre_lo (by omega) (by omega))) 4 0 W (by omega) hW
/-- what a term may be -/
theorem term_bd : ∀ x, x ≤ 8 → ∃ a c, q_leastOf x = Int32.ofNat a ∧ q_mostOf x = Int32.ofNat c ∧ a ≤ 9999 ∧ c ≤ 9999 ∧ (x = 2 → a = 1 ∧ c = 4) ∧ (x = 7 → a = 1 ∧ c = 9) := by
  intro x hx
  match x, hx with
  | 0, _ => exact ⟨1, 9, rfl, rfl, by omega, by omega, by omega, by omega⟩
  | 1, _ => exact ⟨1, 9, rfl, rfl, by omega, by omega, by omega, by omega⟩
  | 2, _ => exact ⟨1, 4, rfl, rfl, by omega, by omega, by omega, by omega⟩
  | 3, _ => exact ⟨1, 8, rfl, rfl, by omega, by omega, by omega, by omega⟩
  | 4, _ => exact ⟨0, 16, rfl, rfl, by omega, by omega, by omega, by omega⟩
  | 5, _ => exact ⟨0, 9, rfl, rfl, by omega, by omega, by omega, by omega⟩
  | 6, _ => exact ⟨0, 15, rfl, rfl, by omega, by omega, by omega, by omega⟩
  | 7, _ => exact ⟨1, 9, rfl, rfl, by omega, by omega, by omega, by omega⟩
  | 8, _ => exact ⟨0, 1, rfl, rfl, by omega, by omega, by omega, by omega⟩
  | k + 9, h => exact absurd h (by omega)
theorem eq1 {x : Int32} (h : zc1 .eq x = false) : ¬ x = 0 := of_decide_eq_false h
theorem readLine_WG {m : Nat → Nat → Int32} {W : Nat → Int32} {p b : Nat} (hW : WG W) : RW (q_readLine m W p b) := by
  have u8 : ∀ x, RW (Int32.ofNat 1, upd W 8 x, p, b) := fun x => RW.mk (hW.put _ (fre_lo (by omega) (by omega)))
  unfold q_readLine
  refine cnd4 RW (fun _ => cnd4 RW (fun _ => cnd4 RW (fun _ => cnd4 RW (fun _ => cnd4 RW (fun _ => ?_) (fun _ => ?_)) (fun _ => ?_)) (fun _ => ?_)) (fun _ => ?_)) (fun _ => ?_)
  · refine cnd4 RW (fun _ => cnd4 RW (fun _ => u8 _) (fun _ => u8 _)) (fun _ => cnd4 RW (fun _ => cnd4 RW (fun _ => RW.no) (fun ht => ?_)) (fun _ => cnd4 RW (fun _ => u8 _) (fun _ => u8 _)))
    have hT := (termHere_k ht).2
    revert hT
    generalize (q_termHere m p b).toNatClampNeg = x
    intro hT
    obtain ⟨a, c, e1, e2, e3, e4, e5, e6⟩ := term_bd x (by omega)
    rw [e1, e2]
    refine cnd4 RW (fun _ => RW.no) (fun h1 => ?_)
    obtain ⟨n, g1, g2, g3⟩ := readTo_ok e3 e4 (eq1 h1)
    refine RW.mk ?_
    rw [g3]
    refine hW.low (by omega) (by omega) (fun h => ok_upd rfl ?_ ?_ (by omega)) (fun h => ok_upd rfl ?_ ?_ (by omega)) (by omega) (by omega) (by omega)
    · have := e5 h; omega
    · have := e5 h; omega
    · have := e6 h; omega
    · have := e6 h; omega
  · refine cnd4 RW (fun _ => RW.no) (fun _ => cnd4 RW (fun _ => RW.no) (fun h1 => ?_))
    obtain ⟨n, g1, g2, g3⟩ := readTo_ok (by omega) (by omega) (eq1 h1)
    refine RW.mk ?_
    rw [g3]
    exact hW.low (by omega) (fun _ => ok_upd rfl g1 g2 (by omega)) (by omega) (by omega) (by omega) (by omega) (by omega)
  · exact RW.eta (RW.mk (readTrust_WG hW))
  · exact RW.eta (readLock_WG hW)
  · exact RW.eta (readWordLine_WG hW)
  · exact RW.eta (readThread_WG hW)
