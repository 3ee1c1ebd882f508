/-- one more cell of a thread, in the class's words -/
theorem RC.thS {m : Nat → Nat → Int32} {b : Nat} {W : Nat → Int32} {t c o s : Nat} {x : Int32} (h : RC m b W) (hC : WC W) (ht : t < 4) (hc : c < 103) (h2 : c ≠ 2 ∧ c ≠ 10 ∧ c ≠ 17 ∧ c ≠ 22) (hm : cmT t c = (o + 7 * t, s)) : RC (zm2 m (b + o + 7 * t) s x) b (upd W (376 + 103 * t + c) x) := by
  have h3 := h.th (x := x) hC ht hc h2
  rw [hm] at h3
  dsimp only at h3
  rw [show b + (o + 7 * t) = b + o + 7 * t by omega] at h3
  exact h3
theorem RC.cellS {m : Nat → Nat → Int32} {b : Nat} {W : Nat → Int32} {t c o s : Nat} (h : RC m b W) (ht4 : t < 4) (hc : c < 103) (hcn : cndT W t c) (hm : cmT t c = (o + 7 * t, s)) : m (b + o + 7 * t) s = W (376 + 103 * t + c) := by
  have h3 := h.cell ht4 hc hcn
  rw [hm] at h3
  dsimp only at h3
  rw [show b + (o + 7 * t) = b + o + 7 * t by omega] at h3
  exact h3
theorem cmT_5 {t y : Nat} (hy : y < 5) : cmT t (5 + y) = (13 + 7 * t, y) := by
  match y, hy with
  | 0, _ => rfl
  | 1, _ => rfl
  | 2, _ => rfl
  | 3, _ => rfl
  | 4, _ => rfl
