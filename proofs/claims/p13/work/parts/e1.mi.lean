/-! the reference as a whole is in order, and stays so -/
noncomputable def WLT (W : Nat → Int32) : Prop := WG W ∧ LT W
noncomputable def MJ (m : Nat → Nat → Int32) (W : Nat → Int32) : Prop := WLT W ∧ (m 137 4 = 0 ∨ WLT (m 139)) ∧ okm m 137 7 400 ∧ (∃ b, b ≤ 400 ∧ m 137 10 = Int32.ofNat b) ∧ okm m 137 16 400
/-- rows below the reference's stay -/
noncomputable def LO (m m' : Nat → Nat → Int32) : Prop := ∀ i, i < 137 → m' i = m i
section ZMJ
variable {m m' : Nat → Nat → Int32} {W W' : Nat → Int32}
theorem LO.rf : LO m m := fun _ _ => rfl
theorem LO.tr {m'' : Nat → Nat → Int32} (h : LO m m') (g : LO m' m'') : LO m m'' := fun i hi => (g i hi).trans (h i hi)
theorem MR.lo (h : MR m m') : LO m m' := fun i hi => h.1 i (by omega) (by omega)
theorem MJ.mr (h : MJ m W) (f : MR m m') (hw : WLT W') : MJ m' W' := by
  have e : ∀ k, k ≠ 0 → k ≠ 5 → m' 137 k = m 137 k := f.2
  refine ⟨hw, ?_, h.2.2.1.of (e 7 (by omega) (by omega)), ?_, h.2.2.2.2.of (e 16 (by omega) (by omega))⟩
  · rw [e 4 (by omega) (by omega), f.1 139 (by omega) (by omega)]
    exact h.2.1
  · rw [e 10 (by omega) (by omega)]
    exact h.2.2.2.1
theorem WLT.of (h : WLT W) (e : ∀ k, k < 788 → W' k = W k) : WLT W' := ⟨WG_of h.1 e, LT_eq h.2 (e 12 (by omega))⟩
theorem crow_of (A B : Nat → Int32) : ∀ k, k < 788 → crow A B k = A k := fun k hk => if_pos hk
theorem fault_mr  : MR m (q_fault m).2 := by
  unfold q_fault
  repeat' (refine cndi (fun q : Int32 × (Nat → Nat → Int32) => MR m q.2) ?_ ?_)
  all_goals (repeat' first | exact MR.rf _ | apply MR.thr | apply MR.nt | apply MR.nw | apply MR.p0)
theorem thread_mr {t x : Int32} : MR m (q_thread m W t x).2 := by
  unfold q_thread
  repeat' (refine cndi (fun q : Int32 × (Nat → Nat → Int32) => MR m q.2) ?_ ?_)
  all_goals (repeat' first | exact MR.rf _ | apply MR.thr | apply MR.nt | apply MR.nw | apply MR.p0)
theorem leftOut_mr {t k : Int32} : MR m (q_leftOut m W t k).2 := by
  unfold q_leftOut
  repeat' (refine cndi (fun q : Int32 × (Nat → Nat → Int32) => MR m q.2) ?_ ?_)
  all_goals (repeat' first | exact MR.rf _ | apply MR.thr | apply MR.nt | apply MR.nw | apply MR.p0)
theorem blocks_mr {t x : Int32} : MR m (q_blocks m W t x).2 := by
  unfold q_blocks
  repeat' (refine cndi (fun q : Int32 × (Nat → Nat → Int32) => MR m q.2) ?_ ?_)
  all_goals (repeat' first | exact MR.rf _ | apply MR.thr | apply MR.nt | apply MR.nw | apply MR.p0)
theorem fell_mr {t y : Int32} : MR m (q_fell m W t y).2 := by
  unfold q_fell
  repeat' (refine cndi (fun q : Int32 × (Nat → Nat → Int32) => MR m q.2) ?_ ?_)
  all_goals (repeat' first | exact MR.rf _ | apply MR.thr | apply MR.nt | apply MR.nw | apply MR.p0)
theorem word_mr {w : Int32} : MR m (q_word m W w).2 := by
  unfold q_word
  repeat' (refine cndi (fun q : Int32 × (Nat → Nat → Int32) => MR m q.2) ?_ ?_)
  all_goals (repeat' first | exact MR.rf _ | apply MR.thr | apply MR.nt | apply MR.nw | apply MR.p0)
theorem sees_mr {t w : Int32} : MR m (q_sees m W t w).2 := by
  unfold q_sees
  repeat' (refine cndi (fun q : Int32 × (Nat → Nat → Int32) => MR m q.2) ?_ ?_)
  all_goals (repeat' first | exact MR.rf _ | apply MR.thr | apply MR.nt | apply MR.nw | apply MR.p0)
theorem lock_mr {l x : Int32} : MR m (q_lock m W l x).2 := by
  unfold q_lock
  repeat' (refine cndi (fun q : Int32 × (Nat → Nat → Int32) => MR m q.2) ?_ ?_)
  all_goals (repeat' first | exact MR.rf _ | apply MR.thr | apply MR.nt | apply MR.nw | apply MR.p0)
theorem term_mr {x : Int32} : MR m (q_term m W x).2 := by
  unfold q_term
  repeat' (refine cndi (fun q : Int32 × (Nat → Nat → Int32) => MR m q.2) ?_ ?_)
  all_goals (repeat' first | exact MR.rf _ | apply MR.thr | apply MR.nt | apply MR.nw | apply MR.p0)
theorem deed_mr {t p x : Int32} : MR m (q_deed m W t p x).2 := by
  unfold q_deed
  repeat' (refine cndi (fun q : Int32 × (Nat → Nat → Int32) => MR m q.2) ?_ ?_)
  all_goals (repeat' first | exact MR.rf _ | apply MR.thr | apply MR.nt | apply MR.nw | apply MR.p0)
theorem touches_mr {t x : Int32} : MR m (q_touches m W t x).2 := by
  unfold q_touches
  repeat' (refine cndi (fun q : Int32 × (Nat → Nat → Int32) => MR m q.2) ?_ ?_)
  all_goals (repeat' first | exact MR.rf _ | apply MR.thr | apply MR.nt | apply MR.nw | apply MR.p0)
theorem rivals_mr {t u : Int32} : MR m (q_rivals m W t u).2 := by
  unfold q_rivals
  repeat' (refine cndi (fun q : Int32 × (Nat → Nat → Int32) => MR m q.2) ?_ ?_)
  all_goals (repeat' first | exact MR.rf _ | apply MR.thr | apply MR.nt | apply MR.nw | apply MR.p0)
theorem nest_mr {t : Int32} : MR m (q_nest m W t).2 := by
  unfold q_nest
  repeat' (refine cndi (fun q : Int32 × (Nat → Nat → Int32) => MR m q.2) ?_ ?_)
  all_goals (repeat' first | exact MR.rf _ | apply MR.thr | apply MR.nt | apply MR.nw | apply MR.p0)
theorem parts_mr {t : Int32} : MR m (q_parts m W t).2 := by
  unfold q_parts
  repeat' (refine cndi (fun q : Int32 × (Nat → Nat → Int32) => MR m q.2) ?_ ?_)
  all_goals (repeat' first | exact MR.rf _ | apply MR.thr | apply MR.nt | apply MR.nw | apply MR.p0)
theorem output_mr {k x : Int32} : MR m (q_output m W k x).2 := by
  unfold q_output
  repeat' (refine cndi (fun q : Int32 × (Nat → Nat → Int32) => MR m q.2) ?_ ?_)
  all_goals (repeat' first | exact MR.rf _ | apply MR.thr | apply MR.nt | apply MR.nw | apply MR.p0)
theorem log_mr {k x : Int32} : MR m (q_log m W k x).2 := by
  unfold q_log
  repeat' (refine cndi (fun q : Int32 × (Nat → Nat → Int32) => MR m q.2) ?_ ?_)
  all_goals (repeat' first | exact MR.rf _ | apply MR.thr | apply MR.nt | apply MR.nw | apply MR.p0)
theorem count_mr {x : Int32} : MR m (q_count m W x).2 := by
  unfold q_count
  repeat' (refine cndi (fun q : Int32 × (Nat → Nat → Int32) => MR m q.2) ?_ ?_)
  all_goals (repeat' first | exact MR.rf _ | apply MR.thr | apply MR.nt | apply MR.nw | apply MR.p0)
theorem octet_mr {k : Int32} {w : Nat} : MR m (q_octet m k w).2 := by
  unfold q_octet
  repeat' (refine cndi (fun q : Int32 × (Nat → Nat → Int32) => MR m q.2) ?_ ?_)
  all_goals (repeat' first | exact MR.rf _ | apply MR.thr | apply MR.nt | apply MR.nw | apply MR.p0)
theorem thrQ {v : Int32} (h : WLT W) (f : MR m m') : QK m (v, W, m') := ⟨h, f⟩
theorem step_q {t : Int32} (h : WLT W) : QK m (q_step m W t) := by
  have hn : MR m (q_noThread m W t).2 := MR.nt (MR.rf m)
  unfold q_step
  refine cndh (QK m) (fun _ => thrQ h hn) (fun h0 => cndh (QK m) (fun _ => thrQ h hn.thr) (fun h1 => cndi (QK m) ?_ (thrQ h hn.thr)))
  have t9 := (nT_in h.1 h0).2
  have h4 := h.1.N4
  have t4 : t.toNatClampNeg < 4 := by omega
  have hk := nd_KG h.1 t4 h1
  have s := steps_ok (m := (q_noThread m W t).2) hk t4
  have f := steps_mr (m := (q_noThread m W t).2) hk t4
  exact QK.mk ⟨s.1, LT_of s.2 t4⟩ (hn.tr f)
theorem run_q {n : Int32} (h : WLT W) : QK m (q_run m W n) := by
  unfold q_run
  exact cndi (QK m) (QK.mk (goesT_ok _ _ _ _ h.1 h.2) ((MR.rf m).p0.tr (goesT_mr _ _ _ _ h.1 h.2))) (thrQ h (MR.rf m).p0.thr)
theorem chance_q {n : Int32} (h : WLT W) : QK m (q_chance m W n) := by
  unfold q_chance
  exact cndi (QK m) (QK.mk (goesD_ok _ _ _ _ h.1 h.2) ((MR.rf m).p0.tr (goesD_mr _ _ _ _ h.1 h.2))) (thrQ h (MR.rf m).p0.thr)
end ZMJ
