section ZMK
variable {m m' : Nat → Nat → Int32} {W W' : Nat → Int32}
theorem tune_q {x n : Int32} (h : WLT W) : QK m (q_tune m W x n) := by
  unfold q_tune
  refine cndh (QK m) (fun h0 => cndh (QK m) (fun h1 => ?_) (fun _ => thrQ h (MR.rf m).p0.thr)) (fun _ => thrQ h (MR.rf m).p0.thr)
  obtain ⟨g1, g2, g3⟩ := in_1 (a := 1) (b := 8) (by omega) (by omega) h0
  revert h1 g2 g3
  generalize x.toNatClampNeg = X
  intro h1 g2 g3
  obtain ⟨a, c, e1, e2, e3, e4, e5, e6⟩ := term_bd X (by omega)
  rw [e1, e2] at h1
  obtain ⟨k1, k2, k3⟩ := in_1 (a := a) (b := c) (by omega) (by omega) h1
  refine QK.mk ⟨h.1.low (by omega) (by omega) (fun q => ok_upd k1 ?_ ?_ (by omega)) (fun q => ok_upd k1 ?_ ?_ (by omega)) (by omega) (by omega) (by omega), h.2.put _ (by omega)⟩ (MR.rf m).p0
  · have := e5 q; omega
  · have := e5 q; omega
  · have := e6 q; omega
  · have := e6 q; omega
end ZMK
