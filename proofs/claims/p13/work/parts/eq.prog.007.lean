section ZPG
variable {T : Nat → Int32} {e p b t L : Nat} {m mm : Nat → Nat → Int32} {W : Nat → Int32}
theorem TLD.next {K n : Nat} (h : TLD m W t L) (ht : t < 4) (hL : L < 24) (hK : K ≤ 7) (hn : n ≤ 999) (h1 : K ≤ 1 → n ≤ 3) (h3 : K ≤ 3 → n ≤ 31) : TLD (x_addDeed m 43 t (Int32.ofNat K) (Int32.ofNat n)) (ndd W t L K n) t (L + 1) := by
  obtain ⟨⟨a1, a2⟩, a3, a4, a5⟩ := h
  have nL : nv W (376 + 103 * t + 22) = L := by
    unfold nv
    rw [a3]
    exact nv_on (by omega)
  refine ⟨⟨a1.dd1 a2.W.C ht a5 a3 hL, a2.dd1 ht nL hL a4 hK hn h1 h3⟩, ndd_22, (ndd_ne (by omega)).trans a4, ?_⟩
  rw [nv_of (ndd_ne (by omega))]
  exact a5
end ZPG
