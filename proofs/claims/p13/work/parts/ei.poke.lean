/-! a word that is poked, alike -/
theorem reachXL_rx {b w n5 : Nat} {v x r s : Int32} {tt : Int32} (hn : n5 ≤ 4) : ∀ (n k : Nat) (m : Nat → Nat → Int32) (W : Nat → Int32), k + n = n5 → RC m b W → WY W → CG m b → nv W 9 = n5 → (∀ j, k ≤ j → j < n5 → zc1 .eq (q_holds s j) = false → W (376 + 103 * j + 2) = Int32.ofNat 1) → ∃ m', xl_reachXL b w v x r s n5 n k m = x_reachXC m' b w v x r s ∧ (l_clears tt s n5 n k W).1 = Int32.ofNat 1 ∧ RC m' b (l_clears tt s n5 n k W).2 ∧ WY (l_clears tt s n5 n k W).2 ∧ CG m' b := by
  intro n
  induction n with
  | zero => intro k m W hk h hw hc h9 hs; exact ⟨m, rfl, rfl, h, hw, hc⟩
  | succ n ih =>
    intro k m W hk h hw hc h9 hs
    rw [xl_reachXL, l_clears, bit_eq]
    cases hb : zc1 .eq (q_holds s k) with
    | true =>
      simp only [cond_true]
      exact ih _ _ _ (by omega) h hw hc h9 (fun j a b c => hs j (by omega) b c)
    | false =>
      simp only [cond_false]
      have hg := hs k (by omega) (by omega) hb
      have h9' : nv (q_falls W k 0) 9 = n5 := by rw [nv_of (falls_6 hw.1.W (by omega) (by omega) (by omega))]; exact h9
      exact ih (k + 1) (x_fall m b k 0).2 (q_falls W k 0) (by omega) (h.fall2 hw.1.1 hc (by omega) (by omega) hg) ⟨hw.1.falls (by omega) (by omega), hw.2.falls hw.1.W (by omega) (by omega)⟩ (hc.fall (by omega) (by omega)) h9' (fun j a b c => by
        rw [falls_2 hw.1.W (by omega) (by omega) (by omega) (by omega) (by omega)]
        exact hs j (by omega) b c)
theorem poke_rx {m : Nat → Nat → Int32} {b : Nat} {W : Nat → Int32} {w : Nat} {v : Int32} (h : RC m b W) (hy : WY W) (hc : CG m b) (hw : w < 32) (hv : ¬ v = -1) (hx : vx v) : RC (x_reachX m b w v).2 b (q_writesX W w v).2 ∧ WY (q_writesX W w v).2 ∧ CG (x_reachX m b w v).2 b := by
  have h4 := hy.1.W.N4
  have hcg := clash_guess (u := -1) (x := q_blockOf W (Int32.ofNat w)) (r := Int32.ofNat 1) hy.1.W hy.1.G
  unfold x_reachX q_writesX q_clearsX
  rw [show zc2 .eq v (-1) = false from decide_eq_false hv, cond_false, block_eq h hy.1.W, holders_eq h hy.1.W hy.1.G, h.n9]
  generalize q_clash W (-1) (q_blockOf W (Int32.ofNat w)) (Int32.ofNat 1) = s at hcg ⊢
  obtain ⟨m', e1, e2, e3, e4, e5⟩ := reachXL_rx (w := w) (v := v) (x := q_blockOf W (Int32.ofNat w)) (r := Int32.ofNat 1) (s := s) (tt := -1) h4 (nv W 9) 0 m W (by omega) h hy hc rfl (fun j _ hj hb => hcg j (by omega) hj hb)
  rw [e1, e2, zn1, cond_true]
  unfold x_reachXC
  rw [zeq1', cond_false]
  exact ⟨e3.globS e4.1.W.C (by omega) (by omega) (by omega) (cm_w hw), ⟨e4.1.glob (by omega) (by omega) (by omega), e4.2.put (fun _ => hx)⟩, e5.put _ ncW⟩
