/-! the parts of the class's step keep the order -/
theorem CG.setq {m : Nat → Nat → Int32} {b t n : Nat} (h : CG m b) (ht : t < 4) (hn : n ≤ 4) : CG (zm2 m (b + 14 + 7 * t) 5 (Int32.ofNat n)) b := by
  refine h.of (h.1.of (zx_ne _ _ _ (by omega))) (zx_ne _ _ _ (by omega)) (fun u hu => ?_) (fun u hu k hk => zx_ne _ _ _ (by omega)) (zx_ne _ _ _ (by omega)) (fun l hl => zx_ne _ _ _ (by omega))
  by_cases hut : u = t
  · subst hut
    exact okm.is (zx_at _ _ _ _) hn (by omega)
  · exact (h.2.2.1 u hu).1.of (zx_ne _ _ _ (by omega))
theorem CG.setl {m : Nat → Nat → Int32} {b t n l : Nat} (h : CG m b) (ht : t < 4) (hn : n < 4) (hl : l < 4) : CG (zm2 m (b + 15 + 7 * t) n (Int32.ofNat l)) b := by
  refine ⟨h.1.of (zx_ne _ _ _ (by omega)), h.2.1.of (zx_ne _ _ _ (by omega)), fun u hu => ⟨(h.2.2.1 u hu).1.of (zx_ne _ _ _ (by omega)), fun k hk => ?_⟩, h.2.2.2.1.of (zx_ne _ _ _ (by omega)), fun l hl => (h.2.2.2.2 l hl).of (zx_ne _ _ _ (by omega))⟩
  by_cases hc : b + 15 + 7 * u = b + 15 + 7 * t ∧ k = n
  · have e1 : u = t := by omega
    have e2 := hc.2
    subst e1 e2
    exact okm.is (zx_at _ _ _ _) (by omega) (by omega)
  · exact ((h.2.2.1 u hu).2 k hk).of (zx_o _ _ hc)
theorem CG.leaveOut {m : Nat → Nat → Int32} {b t l : Nat} (h : CG m b) (ht : t < 4) (hl : l < 4) : CG (x_leaveOut m b t (Int32.ofNat l)) b := by
  unfold x_leaveOut
  refine cndh (fun q : Nat → Nat → Int32 => CG q b) (fun _ => h) (fun hc => ?_)
  have hq4 := h.q4 ht
  have hlt := zge_lt (by omega) (by omega) hc
  have e : zm2 m (b + 15 + 7 * t) (mv m (b + 14 + 7 * t) 5) (Int32.ofNat l) (b + 14 + 7 * t) 5 + Int32.ofNat 1 = Int32.ofNat (mv m (b + 14 + 7 * t) 5 + 1) := by
    rw [zx_ne _ _ _ (by omega), Int32.ofNat_add, ← h.q ht]
  rw [e]
  exact (h.setl ht hlt hl).setq ht (by omega)
theorem CG.begin {m : Nat → Nat → Int32} {b t : Nat} {x y z : Int32} (h : CG m b) (ht : t < 4) : CG (x_begin m b t x y z) b := by
  unfold x_begin
  exact (((h.put _ (ncG ht (by omega))).put _ (ncG ht (by omega))).put _ (ncG ht (by omega))).put _ (ncG ht (by omega))
theorem CG.gain {m : Nat → Nat → Int32} {b l : Nat} {x : Int32} (h : CG m b) (hl : l < 4) : CG (x_gain m b l x) b := by
  unfold x_gain
  exact cndi (fun q : Nat → Nat → Int32 => CG q b) (h.put _ (ncL hl (by omega))) (h.put _ (ncL hl (by omega)))
theorem keepL_ok {b t l : Nat} (ht : t < 4) (hl : l < 4) : ∀ (n k : Nat) (m : Nat → Nat → Int32), CG m b → CG (xl_keep b t l n k m) b := by
  intro n
  induction n with
  | zero =>
    intro k m h
    rw [xl_keep]
    exact CG.logAdd (((((h.close ht).put _ (ncS ht)).put _ (ncS ht)).gain hl).put _ (ncL hl (by omega))) _ _ _ _
  | succ n ih =>
    intro k m h
    rw [xl_keep]
    exact ih _ _ (h.put _ ncW)
theorem CG.keep {m : Nat → Nat → Int32} {b t l : Nat} (h : CG m b) (ht : t < 4) (hl : l < 4) : CG (x_keep m b t l) b := keepL_ok ht hl _ _ _ h
theorem CG.takePB {m : Nat → Nat → Int32} {b t l : Nat} (h : CG m b) (ht : t < 4) (hl : l < 4) : CG (x_takePB m b t l).2 b := by
  unfold x_takePB
  have ar := h.reach (w := mv m (b + 5 + l) 0) (v := Int32.ofNat 1) ht
  generalize x_reach m b t (mv m (b + 5 + l) 0) (Int32.ofNat 1) = c at ar ⊢
  have a1 : CG (zm2 (zm2 c.2 (b + 10 + 7 * t) 5 (Int32.ofNat 0)) (b + 5 + l) 2 (zm2 c.2 (b + 10 + 7 * t) 5 (Int32.ofNat 0) (b + 5 + l) 2 + Int32.ofNat 1)) b := (ar.put _ (ncS ht)).put _ (ncL hl (by omega))
  generalize zm2 (zm2 c.2 (b + 10 + 7 * t) 5 (Int32.ofNat 0)) (b + 5 + l) 2 (zm2 c.2 (b + 10 + 7 * t) 5 (Int32.ofNat 0) (b + 5 + l) 2 + Int32.ofNat 1) = m1 at a1 ⊢
  have a2 : ∀ x y z u : Int32, CG (x_logAdd m1 b x y z u) b := fun x y z u => a1.logAdd _ _ _ _
  have a3 : ∀ x y z u w : Int32, CG (x_logAdd (x_gain m1 b l w) b x y z u) b := fun x y z u w => (a1.gain hl).logAdd _ _ _ _
  have a4 : ∀ x y z u v p q r : Int32, CG (x_logAdd (zm2 (x_leaveOut (x_begin m b t x y z) b t (Int32.ofNat l)) (b + 14 + 7 * t) 6 u) b v p q r) b := fun x y z u v p q r => CG.logAdd (((h.begin ht).leaveOut ht hl).put _ (ncG ht (by omega))) _ _ _ _
  exact cndi (fun q : QM => CG q.2 b) (cndi (fun q : QM => CG q.2 b) (cndi (fun q : QM => CG q.2 b) (a2 _ _ _ _) (a3 _ _ _ _ _)) (cndi (fun q : QM => CG q.2 b) (cndi (fun q : QM => CG q.2 b) (a2 _ _ _ _) (a3 _ _ _ _ _)) (a4 _ _ _ _ _ _ _ _))) h
theorem CG.takePlainly {m : Nat → Nat → Int32} {b t l : Nat} (h : CG m b) (ht : t < 4) (hl : l < 4) : CG (x_takePlainly m b t l).2 b := (h.reach ht).takePB ht hl
theorem CG.takeGB {m : Nat → Nat → Int32} {b t l w : Nat} (h : CG m b) (ht : t < 4) (hl : l < 4) : CG (x_takeGB m b t l w).2 b := by
  unfold x_takeGB
  have ar := h.reach (w := w) (v := Int32.ofNat 1) ht
  have f4 := h.fall ht (show 4 < 5 by omega)
  have f2 := h.fall ht (show 2 < 5 by omega)
  generalize x_reach m b t w (Int32.ofNat 1) = c at ar ⊢
  generalize x_fall m b t 4 = c4 at f4 ⊢
  generalize x_fall m b t 2 = c2 at f2 ⊢
  exact cndi (fun q : QM => CG q.2 b) (cndi (fun q : QM => CG q.2 b) (cndi (fun q : QM => CG q.2 b) ar (h.leaveOut ht hl)) f4) f2
theorem CG.takeGuessing {m : Nat → Nat → Int32} {b t l : Nat} (h : CG m b) (ht : t < 4) (hl : l < 4) : CG (x_takeGuessing m b t l).2 b := by
  unfold x_takeGuessing
  have ar := h.reach (w := mv m (b + 5 + l) 0) (v := -1) ht
  generalize x_reach m b t (mv m (b + 5 + l) 0) (-1) = c at ar ⊢
  exact cndi (fun q : QM => CG q.2 b) (ar.takeGB ht hl) ar
theorem CG.getWord {m : Nat → Nat → Int32} {b t w : Nat} (h : CG m b) (ht : t < 4) : CG (x_getWord m b t w).2 b := by
  unfold x_getWord
  have ar := h.reach (w := w) (v := -1) ht
  generalize x_reach m b t w (-1) = c at ar ⊢
  exact cndi (fun q : QM => CG q.2 b) ar (ar.put _ (ncS ht))
theorem lo_pos {m : Nat → Nat → Int32} {b t : Nat} {l : Int32} (hc : zc1 .eq (x_leavesOut m b t l) = false) : 1 ≤ mv m (b + 14 + 7 * t) 5 := by
  apply Nat.succ_le_of_lt
  apply Nat.pos_of_ne_zero
  intro e
  unfold x_leavesOut at hc
  rw [e] at hc
  exact absurd hc (by simp only [xl_leavesOut]; decide)
theorem CG.dropLock {m : Nat → Nat → Int32} {b t l : Nat} (h : CG m b) (ht : t < 4) (hl : l < 4) : CG (x_dropLock m b t l).2 b := by
  unfold x_dropLock
  have ar := h.reach (w := mv m (b + 5 + l) 0) (v := Int32.ofNat 0) ht
  have f2 := h.fall ht (show 2 < 5 by omega)
  generalize x_reach m b t (mv m (b + 5 + l) 0) (Int32.ofNat 0) = c at ar ⊢
  generalize x_fall m b t 2 = c2 at f2 ⊢
  have al : ∀ x y z u : Int32, CG (x_logAdd c.2 b x y z u) b := fun x y z u => ar.logAdd _ _ _ _
  refine cndi (fun q : QM => CG q.2 b) (cndi (fun q : QM => CG q.2 b) ar (cndi (fun q : QM => CG q.2 b) ar (al _ _ _ _))) (cndh (fun q : QM => CG q.2 b) (fun _ => cndi (fun q : QM => CG q.2 b) ar (cndi (fun q : QM => CG q.2 b) ar (al _ _ _ _))) (fun h1 => cndi (fun q : QM => CG q.2 b) ?_ f2))
  have hp := lo_pos h1
  have hq4 := h.q4 ht
  have e : m (b + 14 + 7 * t) 5 - Int32.ofNat 1 = Int32.ofNat (mv m (b + 14 + 7 * t) 5 - 1) := by rw [← zsubN hp, ← h.q ht]
  rw [e]
  have hs := h.setq (n := mv m (b + 14 + 7 * t) 5 - 1) ht (by omega)
  exact cndi (fun q : QM => CG q.2 b) hs (hs.keep ht hl)
