section ZMK
variable {m m' : Nat → Nat → Int32} {W W' : Nat → Int32}
theorem due_q {t : Int32} (h : WLT W) : QK m (q_due m W t) := by
  have hn : MR m (q_noThread m W t).2 := MR.nt (MR.rf m)
  unfold q_due
  generalize (q_noThread m W t).2 = m1 at hn ⊢
  have f : MR (zrow m1 140 (crow W (m1 140))) (q_dueOf (zrow m1 140 (crow W (m1 140))) W t.toNatClampNeg).2.2 := dueOf_mr _ _ _ _ h.1 h.2
  have g : MF (zrow m1 140 (crow W (m1 140))) (q_dueOf (zrow m1 140 (crow W (m1 140))) W t.toNatClampNeg).2.2 := dueOf_ok _ _ _ _ h.1 h.2
  generalize q_dueOf (zrow m1 140 (crow W (m1 140))) W t.toNatClampNeg = c at f g ⊢
  exact cndi (QK m) (QK.mk (h.of (crow_back g)) ((hn.tr (MR.z140 m1 _)).tr f)) (thrQ h hn)
end ZMK
