theorem KG.deed {W : Nat → Int32} {t : Nat} (h : KG W t) (ht : t < 4) : nv W (376 + 103 * t + 0) < 24 ∧ DG W t (nv W (376 + 103 * t + 0)) := by
  have h1 := (h.1.2 t ht).2.2.2.1.2.2
  have h2 : nv W (376 + 103 * t + 0) < nv W (376 + 103 * t + 22) := h.2
  exact ⟨by omega, (h.1.2 t ht).2.2.2.2.2.2.2 _ (by omega)⟩
