theorem keepL_rx {b t l : Nat} (hl : l < 4) (ht4 : t < 4) : ∀ (n k : Nat) (m : Nat → Nat → Int32) (W : Nat → Int32), k + n = 32 → RC m b W → WG W → TB W → ok W 5 0 9 → ok W 8 0 1 → (∀ u, u < 4 → u ≠ t → WXt W u) → WKt W t → CG m b → t < nv W 9 → AL W t → W (376 + 103 * t + 2) = Int32.ofNat 1 → RC (xl_keep b t l n k m) b (l_isKept t l n k W) ∧ WX (l_isKept t l n k W) := by
  intro n
  induction n with
  | zero =>
    intro k m W hk h hw hT h5 h8 hX hK hc ht hA hg
    have : k = 32 := by omega
    subst this
    exact kept0_rx h hw hT h5 h8 hX hK hc ht hl hA
  | succ n ih =>
    intro k m W hk h hw hT h5 h8 hX hK hc ht hA hg
    have h4 := hw.N4
    have g1 : m (b + 1) k = W (32 + k) := h.globR (by omega) (by omega) (cm_w (by omega))
    have g9 : m (b + 14 + 7 * t) 9 = W (376 + 103 * t + 17) := h.cellS ht4 (by omega) (cnd0 ht (by omega)) rfl
    have es : x_seenBy m b t k = bif zc1 .eq (q_holds (W (376 + 103 * t + 17)) k) then W (32 + k) else W (376 + 103 * t + (23 + k)) := by
      unfold x_seenBy x_hasValue
      rw [h.gs ht4 ht, hg, zeq1', cond_false, g1, g9, bit_eq]
      cases hb : zc1 .eq (q_holds (W (376 + 103 * t + 17)) k) with
      | true => rw [cond_true, zeq0, cond_true, cond_true]
      | false =>
        rw [cond_false, zeq1', cond_false, cond_false]
        rw [rb_k (by omega)] at hb
        have hh : hbit (W (376 + 103 * t + 17)) k := (hbit_rb (by omega)).mpr (by
          cases hr : rbt (W (376 + 103 * t + 17)) k with
          | true => rfl
          | false => rw [hr] at hb; exact absurd hb (by decide))
        exact h.cellS (c := 23 + k) ht4 (by omega) ⟨ht, fun q => by omega, fun q => by omega, fun _ => by rw [show 23 + k - 23 = k by omega]; exact hh, fun q => by omega⟩ (cmT_v (by omega))
    have r := h.globS (k := 32 + k) (o := 1) (s := k) (x := x_seenBy m b t k) hw.C (by omega) (by omega) (by omega) (cm_w (by omega))
    have eW : l_isKept t l (n + 1) k W = l_isKept t l n (k + 1) (upd W (32 + k) (x_seenBy m b t k)) := by
      rw [l_isKept, es]
      have q17 : q_of W t 17 = W (376 + 103 * t + 17) := rfl
      rw [q17]
      cases zc1 .eq (q_holds (W (376 + 103 * t + 17)) k) with
      | true => rw [cond_true, cond_true, upd_self]
      | false => rfl
    rw [xl_keep, eW]
    have u : ∀ j, j ≠ 32 + k → upd W (32 + k) (x_seenBy m b t k) j = W j := fun j hj => upd_ne _ _ hj
    refine ih _ _ _ (by omega) r (hw.put _ (fre_lo (by omega) (by omega))) (hT.of (fun j hj => u j (by omega))) (h5.of (u _ (by omega))) (h8.of (u _ (by omega))) (fun v hv hvt => (hX v hv hvt).of hw hv (fun c hc _ => u _ (by omega))) (hK.of hw ht4 (u _ (by omega)) (u _ (by omega)) (u _ (by omega)) (fun p hp => u _ (by omega))) (hc.put _ ncW) (by rw [nv_of (u 9 (by omega))]; exact ht) (hA.of (u _ (by omega)) (u _ (by omega))) ((u _ (by omega)).trans hg)
