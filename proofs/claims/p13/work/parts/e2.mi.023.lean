section ZMK
variable {m m' : Nat → Nat → Int32} {W W' : Nat → Int32}
theorem seed_q {n : Int32} (h : WLT W) : QK m (q_seed m W n) := QK.mk ⟨h.1.put _ (fre_lo (by omega) (by omega)), h.2.put _ (by omega)⟩ (MR.rf m).p0
end ZMK
