section ZPG
variable {T : Nat → Int32} {e p b t L : Nat} {m mm : Nat → Nat → Int32} {W : Nat → Int32}
theorem line_rx (h : PA T e mm) (hG : PG mm) (hp : p ≤ e) (hk : TLK m W) : TLP (y_readLine T e m p) (q_readLine mm W (q_letters mm p).1 (q_letters mm p).2) := by
  have he := h.2.1
  have hl : (zby 0).length < 100000 := by have := zby_len 0 (by omega); omega
  have l2 := letters_le (m := mm) (p := p) hG (by rw [h.1]; exact hp)
  rw [h.1] at l2
  unfold y_readLine
  rw [name_eq h hp hl]
  generalize q_letters mm p = G at l2 ⊢
  dsimp only
  have hw := fun s (hs : s < 37) => ws_of h l2.2 l2.1 (s := s) hs
  rcases name0 (T := T) (p := G.1) (b := G.2) (by omega) l2.2 with ⟨a1, a2⟩ | ⟨K, s, a1, a2, a3⟩
  · rw [line_0 (fun s h1 h2 => (hw s (by omega)).2 (a2 s h1 h2)), a1, show zc2 .eq (-1 : Int32) (-1) = true from by decide, cnT]
    exact Or.inl ⟨rfl, rfl, rfl⟩
  · have hs := ln0_b s (List.mem_of_getElem? a1)
    have hK : K < 14 := (List.getElem?_eq_some_iff.mp a1).1
    have hT := (hw s (by omega)).1 ((a3 s hs.1 hs.2).trans (decide_eq_true rfl))
    have hF := fun u h1 h2 h3 => (hw u (by omega)).2 ((a3 u h1 h2).trans (decide_eq_false h3))
    rw [a2, zm_k K hK, cnF, nv_on (by omega)]
    clear a2 a3
    match K, a1 with
    | 0, a1 =>
      cases a1
      rw [line_25 hT hF]
      exact term_rx0 h l2.1 hk
    | 1, a1 => cases a1; rw [line_t (K := 1) (by omega) (by omega) hT hF]; exact term_rx1 h l2.1 (by omega) (by omega) hk
    | 2, a1 => cases a1; rw [line_t (K := 2) (by omega) (by omega) hT hF]; exact term_rx1 h l2.1 (by omega) (by omega) hk
    | 3, a1 => cases a1; rw [line_t (K := 3) (by omega) (by omega) hT hF]; exact term_rx1 h l2.1 (by omega) (by omega) hk
    | 4, a1 => cases a1; rw [line_t (K := 4) (by omega) (by omega) hT hF]; exact term_rx1 h l2.1 (by omega) (by omega) hk
    | 5, a1 => cases a1; rw [line_t (K := 5) (by omega) (by omega) hT hF]; exact term_rx1 h l2.1 (by omega) (by omega) hk
    | 6, a1 => cases a1; rw [line_t (K := 6) (by omega) (by omega) hT hF]; exact term_rx1 h l2.1 (by omega) (by omega) hk
    | 7, a1 => cases a1; rw [line_t (K := 7) (by omega) (by omega) hT hF]; exact term_rx1 h l2.1 (by omega) (by omega) hk
    | 8, a1 => cases a1; rw [line_24 hT hF]; exact trust_rx h l2.1 hk
    | 9, a1 => cases a1; rw [line_22 hT hF]; exact word_rx h hG l2.1 hk
    | 10, a1 =>
      cases a1
      rw [line_26 hT hF]
      exact Or.inr ⟨rfl, rfl, rfl, hk.1.globS hk.2.W.C (by omega) (by omega) (by omega) (cm_3 (k := 8) (by omega)), hk.2.term (k := 8) (n := 1) (by omega) (by decide) (by decide)⟩
    | 11, a1 =>
      cases a1
      rw [line_27 hT hF]
      exact Or.inr ⟨rfl, rfl, rfl, hk.1.globS hk.2.W.C (by omega) (by omega) (by omega) (cm_3 (k := 8) (by omega)), hk.2.term (k := 8) (n := 0) (by omega) (by decide) (by decide)⟩
    | 12, a1 => cases a1; rw [line_23 hT hF]; exact lock_rx h hG l2.1 hk
    | 13, a1 => cases a1; rw [line_21 hT]; exact thread_rx h hG l2.1 hk
    | k + 14, _ => exact absurd hK (by omega)
end ZPG
