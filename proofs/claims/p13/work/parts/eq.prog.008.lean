section ZPG
variable {T : Nat → Int32} {e p b t L : Nat} {m mm : Nat → Nat → Int32} {W : Nat → Int32}
noncomputable def TDP (t L : Nat) (X : Int32 × (Nat → Nat → Int32) × Nat × Nat) (Y : Int32 × (Nat → Int32) × Nat × Nat) : Prop := (X.1 = Int32.ofNat 0 ∧ Y.1 = Int32.ofNat 0 ∧ X.2.2.2 = Y.2.2.2) ∨ (X.1 = Int32.ofNat 1 ∧ Y.1 = Int32.ofNat 1 ∧ X.2.2.1 = Y.2.2.1 ∧ TLD X.2.1 Y.2.1 t (L + 1))
theorem deed_rx (h : PA T e mm) (hG : PG mm) (hp : p ≤ e) (ht : t < 4) (hL : L < 24) (hd : TLD m W t L) : TDP t L (y_readDeed T e m p t) (q_readDeed mm W p t L) := by
  have he := h.2.1
  have hl := zby_len 2 (by omega)
  have l2 := letters_le (m := mm) (p := p) hG (by rw [h.1]; exact hp)
  rw [h.1] at l2
  have dK := fun K => deed_K (mm := mm) (p := p) (W := W) (t := t) (L := L) (K := K)
  have d7 := deed_7 (mm := mm) (p := p) (W := W) (t := t) (L := L)
  have d0 := deed_0 (mm := mm) (p := p) (W := W) (t := t) (L := L)
  unfold y_readDeed
  rw [name_eq h hp (by omega)]
  generalize q_letters mm p = G at l2 dK d7 d0 ⊢
  dsimp only
  have hw := fun s (hs : s < 37) => ws_of h l2.2 l2.1 (s := s) hs
  rcases name2 (T := T) (p := G.1) (b := G.2) (by omega) l2.2 with ⟨a1, a2⟩ | ⟨K, s, a1, a2, a3⟩
  · rw [d0 (kind_0 (fun s h1 h2 => (hw s (by omega)).2 (a2 s h1 h2))), a1, show zc1 .lt (-1 : Int32) = true from by decide, cnT]
    exact Or.inl ⟨rfl, rfl, rfl⟩
  · have hs := ln2_b s (List.mem_of_getElem? a1)
    have hK : K < 8 := (List.getElem?_eq_some_iff.mp a1).1
    have kK := kind_K a1 ((hw s (by omega)).1 ((a3 s hs.1 hs.2).trans (decide_eq_true rfl))) (fun u h1 h2 h3 => (hw u (by omega)).2 ((a3 u h1 h2).trans (decide_eq_false h3)))
    have z : ∀ k, k < 8 → zc1 .lt (Int32.ofNat k) = false ∧ zc2 .le (Int32.ofNat k) (Int32.ofNat 7) = true := by decide +kernel
    rw [a2, (z K hK).1, (z K hK).2, cnF, cnT, nv_on (by omega)]
    by_cases k7 : K = 7
    · subst k7
      rw [d7 kK hL, show zc2 .ne (Int32.ofNat 7) (Int32.ofNat 7) = false from by decide, cnF]
      refine Or.inr ⟨rfl, rfl, rfl, ?_⟩
      exact hd.next (n := 0) ht hL (by omega) (by omega) (by omega) (by omega)
    · obtain ⟨z1, z2⟩ := zla_d K (by omega)
      obtain ⟨b1, b2, b3, b4⟩ := dhi_b K (by omega)
      rw [dK K kK (by omega) hL, tne_tt (by omega) (by omega) k7, cnT, z1, z2, number_eq h l2.1]
      unfold q_readTo
      have nk := number_k (m := mm) (p := G.1) (a := dlo K) (c := dhi K) (by omega) (by omega)
      generalize q_number mm G.1 (Int32.ofNat (dlo K)) (Int32.ofNat (dhi K)) = N at nk ⊢
      rw [zne2_n]
      cases hn : zc2 .eq N.1 (-1) with
      | true =>
        rw [Bool.not_true, cnF, cnT]
        exact Or.inl ⟨rfl, rfl, rfl⟩
      | false =>
        obtain ⟨n1, n2, -⟩ := nk (zeq_f hn)
        rw [Bool.not_false, cnT, cnF]
        refine Or.inr ⟨rfl, rfl, rfl, ?_⟩
        show TLD (x_addDeed m 43 t (Int32.ofNat K) N.1) (upd (dd3 W t L K) (376 + 103 * t + (55 + 2 * L) + 1) N.1) t (L + 1)
        rw [n1, dd3_ndd]
        exact hd.next ht hL (by omega) (by omega) (fun q => by have := b2 q; omega) (fun q => by have := b3 q; omega)
end ZPG
