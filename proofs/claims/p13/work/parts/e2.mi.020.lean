section ZMK
variable {m m' : Nat → Nat → Int32} {W W' : Nat → Int32}
theorem writesX_12 {w : Nat} {v : Int32} (h : WG W) : (q_writesX W w v).2 12 = W 12 := by
  unfold q_writesX
  have a : ∀ s, (q_clearsX W s).2 12 = W 12 := fun s => clearsL_12 h.N4 _ _ _ (by omega) h
  exact cndi (fun q : Int32 × (Nat → Int32) => q.2 12 = W 12) ((upd_ne _ _ (by omega)).trans (a _)) (a _)
end ZMK
