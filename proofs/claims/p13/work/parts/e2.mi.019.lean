section ZMK
variable {m m' : Nat → Nat → Int32} {W W' : Nat → Int32}
theorem clearsL_12 {t s : Int32} {n9 : Nat} (hn : n9 ≤ 4) : ∀ (n k : Nat) (W : Nat → Int32), k + n = n9 → WG W → (l_clears t s n9 n k W).2 12 = W 12 := by
  intro n
  induction n with
  | zero => intro k W _ _; rfl
  | succ n ih =>
    intro k W hk h
    rw [l_clears]
    exact cndi (fun q : Int32 × (Nat → Int32) => q.2 12 = W 12) (ih _ _ (by omega) h) ((ih _ _ (by omega) (h.falls (by omega) (by omega))).trans (falls_12 h (by omega) (by omega)))
end ZMK
