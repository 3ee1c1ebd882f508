section ZMK
variable {m m' : Nat → Nat → Int32} {W W' : Nat → Int32}
theorem poke_q {w v : Int32} (h : WLT W) : QK m (q_poke m W w v) := by
  unfold q_poke
  refine cndh (QK m) (fun h0 => cndi (QK m) ?_ (thrQ h (MR.rf m).p0.thr)) (fun _ => thrQ h (MR.rf m).p0.thr)
  have hw : w.toNatClampNeg < 32 := by
    have := (in_1 (a := 0) (b := 31) (by omega) (by omega) h0).2.2
    omega
  exact QK.mk ⟨h.1.writesX hw v, LT_eq h.2 (writesX_12 h.1)⟩ (MR.rf m).p0
end ZMK
