/-! the class's reach keeps the order -/
theorem ncV {b t k : Nat} (ht : t < 4) : ¬ CGc b (b + 16 + 7 * t) k := by
  intro h
  rcases h with ⟨_, _⟩ | ⟨_, _⟩ | ⟨u, _, ⟨_, _⟩ | _⟩ | ⟨l, _, _, _⟩ <;> omega
theorem ncG {b t k : Nat} (ht : t < 4) (hk : k ≠ 5) : ¬ CGc b (b + 14 + 7 * t) k := by
  intro h
  rcases h with ⟨_, _⟩ | ⟨_, _⟩ | ⟨u, _, ⟨_, _⟩ | _⟩ | ⟨l, _, _, _⟩ <;> omega
theorem ncW {b k : Nat} : ¬ CGc b (b + 1) k := by
  intro h
  rcases h with ⟨_, _⟩ | ⟨_, _⟩ | ⟨u, _, ⟨_, _⟩ | _⟩ | ⟨l, _, _, _⟩ <;> omega
theorem ncS {b t k : Nat} (ht : t < 4) : ¬ CGc b (b + 10 + 7 * t) k := by
  intro h
  rcases h with ⟨_, _⟩ | ⟨_, _⟩ | ⟨u, _, ⟨_, _⟩ | _⟩ | ⟨l, _, _, _⟩ <;> omega
theorem ncL {b l k : Nat} (hl : l < 4) (hk : k ≠ 0) : ¬ CGc b (b + 5 + l) k := by
  intro h
  rcases h with ⟨_, _⟩ | ⟨_, _⟩ | ⟨u, _, ⟨_, _⟩ | _⟩ | ⟨l, _, _, _⟩ <;> omega
theorem ncM {b k : Nat} (h5 : k ≠ 5) (h12 : k ≠ 12) : ¬ CGc b b k := by
  intro h
  rcases h with ⟨_, _⟩ | ⟨_, _⟩ | ⟨u, _, ⟨_, _⟩ | _⟩ | ⟨l, _, _, _⟩ <;> omega
theorem ncO {b k : Nat} : ¬ CGc b (b + 38) k ∧ ¬ CGc b (b + 39) k := by
  refine ⟨fun h => ?_, fun h => ?_⟩
  · rcases h with ⟨_, _⟩ | ⟨_, _⟩ | ⟨u, _, ⟨_, _⟩ | _⟩ | ⟨l, _, _, _⟩ <;> omega
  · rcases h with ⟨_, _⟩ | ⟨_, _⟩ | ⟨u, _, ⟨_, _⟩ | _⟩ | ⟨l, _, _, _⟩ <;> omega
abbrev QM : Type := Int32 × (Nat → Nat → Int32)
theorem CG.gwrite {m : Nat → Nat → Int32} {b t w : Nat} {v x : Int32} (h : CG m b) (ht : t < 4) : CG (x_gwrite m b t w v x) b := by
  unfold x_gwrite
  exact ((h.put _ (ncV ht)).put _ (ncG ht (by omega))).put _ (ncG ht (by omega))
theorem CG.reachC {m : Nat → Nat → Int32} {b t w : Nat} {v x r g o : Int32} (h : CG m b) (ht : t < 4) : CG (x_reachC m b t w v x r g o).2 b := by
  unfold x_reachC
  exact cndi (fun q : QM => CG q.2 b) (cndi (fun q : QM => CG q.2 b) h (h.put _ ncW)) (cndi (fun q : QM => CG q.2 b) (h.put _ (ncG ht (by omega))) (h.gwrite ht))
theorem reachL_ok {b t w n5 : Nat} {v x r g o : Int32} (ht : t < 4) (hn : n5 ≤ 4) : ∀ (n k : Nat) (m : Nat → Nat → Int32), k + n = n5 → CG m b → CG (xl_reachL b t w v x r g o n5 n k m).2 b := by
  intro n
  induction n with
  | zero => intro k m hk h; exact h.reachC ht
  | succ n ih =>
    intro k m hk h
    rw [xl_reachL]
    exact cndi (fun q : QM => CG q.2 b) (ih _ _ (by omega) h) (ih _ _ (by omega) (h.fall (by omega) (by omega)))
theorem CG.reachB {m : Nat → Nat → Int32} {b t w : Nat} {v x r g : Int32} (h : CG m b) (ht : t < 4) : CG (x_reachB m b t w v x r g).2 b := by
  unfold x_reachB
  have a := reachL_ok (b := b) (w := w) (v := v) (x := x) (r := r) (g := g) (o := x_holders m b x (Int32.ofNat t) r) ht h.c4 (mv m b 5) 0 m (by omega) h
  have f := h.fall ht (show 0 < 5 by omega)
  generalize xl_reachL b t w v x r g (x_holders m b x (Int32.ofNat t) r) (mv m b 5) (mv m b 5) 0 m = c at a ⊢
  generalize x_fall m b t 0 = cf at f ⊢
  exact cndi (fun q : QM => CG q.2 b) a (cndi (fun q : QM => CG q.2 b) a (cndi (fun q : QM => CG q.2 b) a f))
theorem CG.reach {m : Nat → Nat → Int32} {b t w : Nat} {v : Int32} (h : CG m b) (ht : t < 4) : CG (x_reach m b t w v).2 b := by
  unfold x_reach
  have f := h.fall ht (show 1 < 5 by omega)
  generalize x_fall m b t 1 = cf at f ⊢
  exact cndi (fun q : QM => CG q.2 b) (cndi (fun q : QM => CG q.2 b) (h.reachB ht) (h.reachB ht)) (cndi (fun q : QM => CG q.2 b) (h.reachB ht) (cndi (fun q : QM => CG q.2 b) (h.reachB ht) f))
