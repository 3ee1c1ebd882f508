def q_reads (m : Nat → Nat → Int32) (W : Nat → Int32) (t : Nat) (w : Int32) : Int32 × (Nat → Int32) × (Nat → Nat → Int32) := (bif zc1 .ne (q_clears m W t ((q_clash W ((Int32.ofNat t)) ((q_blockOf W w)) ((Int32.ofNat 0))))).1 then (bif zc2 .ne (q_of ((q_clears m W t ((q_clash W ((Int32.ofNat t)) ((q_blockOf W w)) ((Int32.ofNat 0))))).2.1) t 2) (Int32.ofNat 1) then ((Int32.ofNat 1), (q_clears m W t ((q_clash W ((Int32.ofNat t)) ((q_blockOf W w)) ((Int32.ofNat 0))))).2.1, (q_clears m W t ((q_clash W ((Int32.ofNat t)) ((q_blockOf W w)) ((Int32.ofNat 0))))).2.2) else ((Int32.ofNat 1), (upd ((q_clears m W t ((q_clash W ((Int32.ofNat t)) ((q_blockOf W w)) ((Int32.ofNat 0))))).2.1) (376 + 103 * t + 15) ((((q_clears m W t ((q_clash W ((Int32.ofNat t)) ((q_blockOf W w)) ((Int32.ofNat 0))))).2.1) (376 + 103 * t + 15)) ||| (q_blockOf ((q_clears m W t ((q_clash W ((Int32.ofNat t)) ((q_blockOf W w)) ((Int32.ofNat 0))))).2.1) w))), (q_clears m W t ((q_clash W ((Int32.ofNat t)) ((q_blockOf W w)) ((Int32.ofNat 0))))).2.2)) else ((Int32.ofNat 0), (q_clears m W t ((q_clash W ((Int32.ofNat t)) ((q_blockOf W w)) ((Int32.ofNat 0))))).2.1, (q_clears m W t ((q_clash W ((Int32.ofNat t)) ((q_blockOf W w)) ((Int32.ofNat 0))))).2.2))
theorem p_reads {σ : Nat → Nat × (Nat → Int32)} {yy : (Nat → Nat → Int64) × Bool × Nat × Nat} {m : Nat → Nat → Int32} {W : Nat → Int32} {t : Nat} {w : Int32} {d : Nat} (hd : 6 ≤ d + 1) (hw : WG W) (ht : t < 4) : zEv σ (d + 1) 1823 0 [some (.ref 137), some (.int (Int32.ofNat t)), some (.int w)] [] (zS1, zrow m 138 W, yy) (.inl (some (.int (q_reads m W t w).1))) (zS1, zrow ((q_reads m W t w).2.2) 138 ((q_reads m W t w).2.1), yy) := by
  refine zeP rfl rfl ?_
  refine zeP rfl rfl ?_
  refine zeP rfl rfl ?_
  refine zeP rfl rfl ?_
  refine zeP rfl rfl ?_
  refine zeP rfl rfl ?_
  refine zeCF rfl rfl rfl rfl rfl rfl (c_blockOf (m := m) (W := W) (w := w) hw.Z) (by omega) ?_
  dsimp only [Option.toList, List.cons_append, List.nil_append]
  refine zeKn (c := 0) rfl rfl rfl ?_
  refine zeCF rfl rfl rfl rfl rfl rfl (c_clash (m := m) (W := W) (t := (Int32.ofNat t)) (b := (q_blockOf W w)) (r := (Int32.ofNat 0)) hw.N hw.N4) (by omega) ?_
  dsimp only [Option.toList, List.cons_append, List.nil_append]
  refine zeCF rfl rfl rfl rfl rfl rfl (c_clears (m := m) (W := W) (t := t) (s := (q_clash W ((Int32.ofNat t)) ((q_blockOf W w)) ((Int32.ofNat 0)))) ht hw.N hw.N4 hw.C hw.L) (by omega) ?_
  dsimp only [Option.toList, List.cons_append, List.nil_append]
  refine zeB1 rfl rfl (fun h1 => ?_) (fun h1 => ?_)
  · refine zeP rfl rfl ?_
    refine zeP rfl rfl ?_
    refine zeKn (c := 2) rfl rfl rfl ?_
    refine zeCF rfl rfl rfl rfl rfl rfl (c_of (m := (q_clears m W t ((q_clash W ((Int32.ofNat t)) ((q_blockOf W w)) ((Int32.ofNat 0))))).2.2) (W := (q_clears m W t ((q_clash W ((Int32.ofNat t)) ((q_blockOf W w)) ((Int32.ofNat 0))))).2.1) (t := t) (k := 2) (by first | assumption | omega)) (by omega) ?_
    dsimp only [Option.toList, List.cons_append, List.nil_append]
    refine zeKn (c := 1) rfl rfl rfl ?_
    refine zeB2 rfl rfl (fun h2 => ?_) (fun h2 => ?_)
    · refine zeKn (c := 1) rfl rfl rfl ?_
      exact zeRe rfl rfl rfl rfl (by simp only [q_reads, h1, h2, cond_true, cond_false] <;> rfl) (by simp only [q_reads, h1, h2, cond_true, cond_false] <;> rfl)
    · refine zeP rfl rfl ?_
      refine zeGR rfl rfl zS137 rfl rfl ?_
      refine zeP rfl rfl ?_
      refine zeKn (c := 15) rfl rfl rfl ?_
      refine zeCF rfl rfl rfl rfl rfl rfl (c_at (m := (q_clears m W t ((q_clash W ((Int32.ofNat t)) ((q_blockOf W w)) ((Int32.ofNat 0))))).2.2) (W := (q_clears m W t ((q_clash W ((Int32.ofNat t)) ((q_blockOf W w)) ((Int32.ofNat 0))))).2.1) (t := t) (k := 15) ) (by omega) ?_
      dsimp only [Option.toList, List.cons_append, List.nil_append]
      refine zeP rfl rfl ?_
      refine zeWL (k := (376 + 103 * t + 15)) rfl (by omega) ?_
      refine zeP rfl rfl ?_
      refine zeP rfl rfl ?_
      refine zeCF rfl rfl rfl rfl rfl rfl (c_blockOf (m := (q_clears m W t ((q_clash W ((Int32.ofNat t)) ((q_blockOf W w)) ((Int32.ofNat 0))))).2.2) (W := (q_clears m W t ((q_clash W ((Int32.ofNat t)) ((q_blockOf W w)) ((Int32.ofNat 0))))).2.1) (w := w) (hw.clears ht _).Z) (by omega) ?_
      dsimp only [Option.toList, List.cons_append, List.nil_append]
      refine zeP rfl rfl ?_
      refine zeWS (k := (376 + 103 * t + 15)) rfl (by omega) ?_
      refine zeKn (c := 1) rfl rfl rfl ?_
      exact zeRe rfl rfl rfl rfl (by simp only [q_reads, h1, h2, cond_true, cond_false] <;> rfl) (by simp only [q_reads, h1, h2, cond_true, cond_false] <;> rfl)
  · refine zeKn (c := 0) rfl rfl rfl ?_
    exact zeRe rfl rfl rfl rfl (by simp only [q_reads, h1, cond_true, cond_false] <;> rfl) (by simp only [q_reads, h1, cond_true, cond_false] <;> rfl)
theorem c_reads {σ : Nat → Nat × (Nat → Int32)} {yy : (Nat → Nat → Int64) × Bool × Nat × Nat} {m : Nat → Nat → Int32} {W : Nat → Int32} {t : Nat} {w : Int32} (hw : WG W) (ht : t < 4) : zF σ 6 1823 [.ref 137, .int (Int32.ofNat t), .int w] (zS1, zrow m 138 W, yy) (.inl (some (.int (q_reads m W t w).1))) (zS1, zrow ((q_reads m W t w).2.2) 138 ((q_reads m W t w).2.1), yy) := by
  intro d hd
  obtain ⟨d, rfl⟩ : ∃ k, d = k + 1 := ⟨d - 1, by omega⟩
  exact p_reads hd hw ht
def q_writesB (m : Nat → Nat → Int32) (W : Nat → Int32) (t : Nat) (w : Nat) (v : Int32) (b : Int32) (g : Int32) : Int32 × (Nat → Int32) × (Nat → Nat → Int32) := (bif zc1 .ne (q_clears m W t ((q_clash W ((Int32.ofNat t)) b ((Int32.ofNat 1))))).1 then (bif zc1 .eq g then ((Int32.ofNat 1), (upd ((q_clears m W t ((q_clash W ((Int32.ofNat t)) b ((Int32.ofNat 1))))).2.1) (32 + w) v), (q_clears m W t ((q_clash W ((Int32.ofNat t)) b ((Int32.ofNat 1))))).2.2) else ((Int32.ofNat 1), (upd ((upd ((upd ((q_clears m W t ((q_clash W ((Int32.ofNat t)) b ((Int32.ofNat 1))))).2.1) (376 + 103 * t + 16) ((((q_clears m W t ((q_clash W ((Int32.ofNat t)) b ((Int32.ofNat 1))))).2.1) (376 + 103 * t + 16)) ||| b))) (376 + 103 * t + 17) ((((upd ((q_clears m W t ((q_clash W ((Int32.ofNat t)) b ((Int32.ofNat 1))))).2.1) (376 + 103 * t + 16) ((((q_clears m W t ((q_clash W ((Int32.ofNat t)) b ((Int32.ofNat 1))))).2.1) (376 + 103 * t + 16)) ||| b))) (376 + 103 * t + 17)) ||| ((Int32.ofNat 1) <<< ((Int32.ofNat w) &&& 31))))) (376 + 103 * t + ((23 + w))) v), (q_clears m W t ((q_clash W ((Int32.ofNat t)) b ((Int32.ofNat 1))))).2.2)) else ((Int32.ofNat 0), (q_clears m W t ((q_clash W ((Int32.ofNat t)) b ((Int32.ofNat 1))))).2.1, (q_clears m W t ((q_clash W ((Int32.ofNat t)) b ((Int32.ofNat 1))))).2.2))
theorem p_writesB {σ : Nat → Nat × (Nat → Int32)} {yy : (Nat → Nat → Int64) × Bool × Nat × Nat} {m : Nat → Nat → Int32} {W : Nat → Int32} {t : Nat} {w : Nat} {v : Int32} {b : Int32} {g : Int32} {d : Nat} (hd : 6 ≤ d + 1) (hw : WG W) (ht : t < 4) (h32 : w < 32) : zEv σ (d + 1) 1824 74 [some (.ref 137), some (.int (Int32.ofNat t)), some (.int (Int32.ofNat w)), some (.int v), some (.int b), some (.int g)] [] (zS1, zrow m 138 W, yy) (.inl (some (.int (q_writesB m W t w v b g).1))) (zS1, zrow ((q_writesB m W t w v b g).2.2) 138 ((q_writesB m W t w v b g).2.1), yy) := by
  refine zeP rfl rfl ?_
  refine zeP rfl rfl ?_
  refine zeP rfl rfl ?_
  refine zeP rfl rfl ?_
  refine zeP rfl rfl ?_
  refine zeKn (c := 1) rfl rfl rfl ?_
  refine zeCF rfl rfl rfl rfl rfl rfl (c_clash (m := m) (W := W) (t := (Int32.ofNat t)) (b := b) (r := (Int32.ofNat 1)) hw.N hw.N4) (by omega) ?_
  dsimp only [Option.toList, List.cons_append, List.nil_append]
  refine zeCF rfl rfl rfl rfl rfl rfl (c_clears (m := m) (W := W) (t := t) (s := (q_clash W ((Int32.ofNat t)) b ((Int32.ofNat 1)))) ht hw.N hw.N4 hw.C hw.L) (by omega) ?_
  dsimp only [Option.toList, List.cons_append, List.nil_append]
  refine zeB1 rfl rfl (fun h1 => ?_) (fun h1 => ?_)
  · refine zeP rfl rfl ?_
    refine zeB1 rfl rfl (fun h2 => ?_) (fun h2 => ?_)
    · refine zeP rfl rfl ?_
      refine zeGR rfl rfl zS137 rfl rfl ?_
      refine zeKn (c := 32) rfl rfl rfl ?_
      refine zeP rfl rfl ?_
      refine zeAdd rfl ?_
      refine zeP rfl rfl ?_
      refine zeWS (k := (32 + w)) rfl (by omega) ?_
      refine zeKn (c := 1) rfl rfl rfl ?_
      exact zeRe rfl rfl rfl rfl (by simp only [q_writesB, h1, h2, cond_true, cond_false] <;> rfl) (by simp only [q_writesB, h1, h2, cond_true, cond_false] <;> rfl)
    · refine zeP rfl rfl ?_
      refine zeGR rfl rfl zS137 rfl rfl ?_
      refine zeP rfl rfl ?_
      refine zeKn (c := 16) rfl rfl rfl ?_
      refine zeCF rfl rfl rfl rfl rfl rfl (c_at (m := (q_clears m W t ((q_clash W ((Int32.ofNat t)) b ((Int32.ofNat 1))))).2.2) (W := (q_clears m W t ((q_clash W ((Int32.ofNat t)) b ((Int32.ofNat 1))))).2.1) (t := t) (k := 16) ) (by omega) ?_
      dsimp only [Option.toList, List.cons_append, List.nil_append]
      refine zeP rfl rfl ?_
      refine zeWL (k := (376 + 103 * t + 16)) rfl (by omega) ?_
      refine zeP rfl rfl ?_
      refine zeP rfl rfl ?_
      refine zeWS (k := (376 + 103 * t + 16)) rfl (by omega) ?_
      refine zeP rfl rfl ?_
      refine zeGR rfl rfl zS137 rfl rfl ?_
      refine zeP rfl rfl ?_
      refine zeKn (c := 17) rfl rfl rfl ?_
      refine zeCF rfl rfl rfl rfl rfl rfl (c_at (m := (q_clears m W t ((q_clash W ((Int32.ofNat t)) b ((Int32.ofNat 1))))).2.2) (W := (upd ((q_clears m W t ((q_clash W ((Int32.ofNat t)) b ((Int32.ofNat 1))))).2.1) (376 + 103 * t + 16) ((((q_clears m W t ((q_clash W ((Int32.ofNat t)) b ((Int32.ofNat 1))))).2.1) (376 + 103 * t + 16)) ||| b))) (t := t) (k := 17) ) (by omega) ?_
      dsimp only [Option.toList, List.cons_append, List.nil_append]
      refine zeP rfl rfl ?_
      refine zeWL (k := (376 + 103 * t + 17)) rfl (by omega) ?_
      refine zeKn (c := 1) rfl rfl rfl ?_
      refine zeP rfl rfl ?_
      refine zeP rfl rfl ?_
      refine zeP rfl rfl ?_
      refine zeWS (k := (376 + 103 * t + 17)) rfl (by omega) ?_
      refine zeP rfl rfl ?_
      refine zeGR rfl rfl zS137 rfl rfl ?_
      refine zeP rfl rfl ?_
      refine zeKn (c := 23) rfl rfl rfl ?_
      refine zeP rfl rfl ?_
      refine zeAdd rfl ?_
      refine zeCF rfl rfl rfl rfl rfl rfl (c_at (m := (q_clears m W t ((q_clash W ((Int32.ofNat t)) b ((Int32.ofNat 1))))).2.2) (W := (upd ((upd ((q_clears m W t ((q_clash W ((Int32.ofNat t)) b ((Int32.ofNat 1))))).2.1) (376 + 103 * t + 16) ((((q_clears m W t ((q_clash W ((Int32.ofNat t)) b ((Int32.ofNat 1))))).2.1) (376 + 103 * t + 16)) ||| b))) (376 + 103 * t + 17) ((((upd ((q_clears m W t ((q_clash W ((Int32.ofNat t)) b ((Int32.ofNat 1))))).2.1) (376 + 103 * t + 16) ((((q_clears m W t ((q_clash W ((Int32.ofNat t)) b ((Int32.ofNat 1))))).2.1) (376 + 103 * t + 16)) ||| b))) (376 + 103 * t + 17)) ||| ((Int32.ofNat 1) <<< ((Int32.ofNat w) &&& 31))))) (t := t) (k := (23 + w)) ) (by omega) ?_
      dsimp only [Option.toList, List.cons_append, List.nil_append]
      refine zeP rfl rfl ?_
      refine zeWS (k := (376 + 103 * t + ((23 + w)))) rfl (by omega) ?_
      refine zeP rfl rfl ?_
      refine zeKn (c := 1) rfl rfl rfl ?_
      exact zeRe rfl rfl rfl rfl (by simp only [q_writesB, h1, h2, cond_true, cond_false] <;> rfl) (by simp only [q_writesB, h1, h2, cond_true, cond_false] <;> rfl)
  · refine zeKn (c := 0) rfl rfl rfl ?_
    exact zeRe rfl rfl rfl rfl (by simp only [q_writesB, h1, cond_true, cond_false] <;> rfl) (by simp only [q_writesB, h1, cond_true, cond_false] <;> rfl)
def q_writesX (W : Nat → Int32) (w : Nat) (v : Int32) : Int32 × (Nat → Int32) := (bif zc1 .ne (q_clearsX W ((q_clash W ((-1)) ((q_blockOf W ((Int32.ofNat w)))) ((Int32.ofNat 1))))).1 then ((Int32.ofNat 1), (upd ((q_clearsX W ((q_clash W ((-1)) ((q_blockOf W ((Int32.ofNat w)))) ((Int32.ofNat 1))))).2) (32 + w) v)) else ((Int32.ofNat 0), (q_clearsX W ((q_clash W ((-1)) ((q_blockOf W ((Int32.ofNat w)))) ((Int32.ofNat 1))))).2))
theorem p_writesX {σ : Nat → Nat × (Nat → Int32)} {yy : (Nat → Nat → Int64) × Bool × Nat × Nat} {m : Nat → Nat → Int32} {W : Nat → Int32} {w : Nat} {v : Int32} {d : Nat} (hd : 5 ≤ d + 1) (hw : WG W) (h32 : w < 32) : zEv σ (d + 1) 1824 0 [some (.ref 137), some (.int (-1)), some (.int (Int32.ofNat w)), some (.int v), none, none] [] (zS1, zrow m 138 W, yy) (.inl (some (.int (q_writesX W w v).1))) (zS1, zrow m 138 ((q_writesX W w v).2), yy) := by
  refine zeP rfl rfl ?_
  refine zeP rfl rfl ?_
  refine zeCF rfl rfl rfl rfl rfl rfl (c_blockOf (m := m) (W := W) (w := (Int32.ofNat w)) hw.Z) (by omega) ?_
  dsimp only [Option.toList, List.cons_append, List.nil_append]
  refine zeP rfl rfl ?_
  refine zeP rfl rfl ?_
  refine zeK (v := -1) rfl rfl rfl ?_
  refine zeT2 rfl rfl (show zc2 .eq (-1) (-1) = true by decide) ?_
  refine zeKn (c := 0) rfl rfl rfl ?_
  refine zeP rfl rfl ?_
  refine zeP rfl rfl ?_
  refine zeT1 rfl rfl (show zc1 .eq (Int32.ofNat 0) = true by decide) ?_
  refine zeP rfl rfl ?_
  refine zeP rfl rfl ?_
  refine zeP rfl rfl ?_
  refine zeP rfl rfl ?_
  refine zeP rfl rfl ?_
  refine zeKn (c := 1) rfl rfl rfl ?_
  refine zeCF rfl rfl rfl rfl rfl rfl (c_clash (m := m) (W := W) (t := (-1)) (b := (q_blockOf W ((Int32.ofNat w)))) (r := (Int32.ofNat 1)) hw.N hw.N4) (by omega) ?_
  dsimp only [Option.toList, List.cons_append, List.nil_append]
  refine zeCF rfl rfl rfl rfl rfl rfl (c_clearsX (m := m) (W := W) (s := (q_clash W ((-1)) ((q_blockOf W ((Int32.ofNat w)))) ((Int32.ofNat 1)))) hw.N hw.N4 hw.C hw.L) (by omega) ?_
  dsimp only [Option.toList, List.cons_append, List.nil_append]
  refine zeB1 rfl rfl (fun h1 => ?_) (fun h1 => ?_)
  · refine zeP rfl rfl ?_
    refine zeT1 rfl rfl (show zc1 .eq (Int32.ofNat 0) = true by decide) ?_
    refine zeP rfl rfl ?_
    refine zeGR rfl rfl zS137 rfl rfl ?_
    refine zeKn (c := 32) rfl rfl rfl ?_
    refine zeP rfl rfl ?_
    refine zeAdd rfl ?_
    refine zeP rfl rfl ?_
    refine zeWS (k := (32 + w)) rfl (by omega) ?_
    refine zeKn (c := 1) rfl rfl rfl ?_
    exact zeRe rfl rfl rfl rfl (by simp only [q_writesX, h1, cond_true, cond_false] <;> rfl) (by simp only [q_writesX, h1, cond_true, cond_false] <;> rfl)
  · refine zeKn (c := 0) rfl rfl rfl ?_
    exact zeRe rfl rfl rfl rfl (by simp only [q_writesX, h1, cond_true, cond_false] <;> rfl) (by simp only [q_writesX, h1, cond_true, cond_false] <;> rfl)
theorem c_writesX {σ : Nat → Nat × (Nat → Int32)} {yy : (Nat → Nat → Int64) × Bool × Nat × Nat} {m : Nat → Nat → Int32} {W : Nat → Int32} {w : Nat} {v : Int32} (hw : WG W) (h32 : w < 32) : zF σ 5 1824 [.ref 137, .int (-1), .int (Int32.ofNat w), .int v] (zS1, zrow m 138 W, yy) (.inl (some (.int (q_writesX W w v).1))) (zS1, zrow m 138 ((q_writesX W w v).2), yy) := by
  intro d hd
  obtain ⟨d, rfl⟩ : ∃ k, d = k + 1 := ⟨d - 1, by omega⟩
  exact p_writesX hd hw h32
def q_writes (m : Nat → Nat → Int32) (W : Nat → Int32) (t : Nat) (w : Nat) (v : Int32) : Int32 × (Nat → Int32) × (Nat → Nat → Int32) := (bif zc2 .ne (q_of W t 2) (Int32.ofNat 1) then (q_writesB m W t w v ((q_blockOf W ((Int32.ofNat w)))) ((Int32.ofNat 0))) else (bif zc1 .ne ((q_of W t 16) &&& (q_blockOf W ((Int32.ofNat w)))) then (q_writesB m W t w v ((q_blockOf W ((Int32.ofNat w)))) ((Int32.ofNat 1))) else (bif zc2 .lt (q_bits ((q_of W t 16))) (W 3) then (q_writesB m W t w v ((q_blockOf W ((Int32.ofNat w)))) ((Int32.ofNat 1))) else ((Int32.ofNat 0), (q_itFalls m W t 1).1, (q_itFalls m W t 1).2))))
theorem p_writes {σ : Nat → Nat × (Nat → Int32)} {yy : (Nat → Nat → Int64) × Bool × Nat × Nat} {m : Nat → Nat → Int32} {W : Nat → Int32} {t : Nat} {w : Nat} {v : Int32} {d : Nat} (hd : 6 ≤ d + 1) (hw : WG W) (ht : t < 4) (h32 : w < 32) : zEv σ (d + 1) 1824 0 [some (.ref 137), some (.int (Int32.ofNat t)), some (.int (Int32.ofNat w)), some (.int v), none, none] [] (zS1, zrow m 138 W, yy) (.inl (some (.int (q_writes m W t w v).1))) (zS1, zrow ((q_writes m W t w v).2.2) 138 ((q_writes m W t w v).2.1), yy) := by
  refine zeP rfl rfl ?_
  refine zeP rfl rfl ?_
  refine zeCF rfl rfl rfl rfl rfl rfl (c_blockOf (m := m) (W := W) (w := (Int32.ofNat w)) hw.Z) (by omega) ?_
  dsimp only [Option.toList, List.cons_append, List.nil_append]
  refine zeP rfl rfl ?_
  refine zeP rfl rfl ?_
  refine zeK (v := -1) rfl rfl rfl ?_
  refine zeF2 rfl rfl (zne1 (by omega)) ?_
  refine zeP rfl rfl ?_
  refine zeP rfl rfl ?_
  refine zeKn (c := 2) rfl rfl rfl ?_
  refine zeCF rfl rfl rfl rfl rfl rfl (c_of (m := m) (W := W) (t := t) (k := 2) (by first | assumption | omega)) (by omega) ?_
  dsimp only [Option.toList, List.cons_append, List.nil_append]
  refine zeKn (c := 1) rfl rfl rfl ?_
  refine zeB2 rfl rfl (fun h1 => ?_) (fun h1 => ?_)
  · refine zeKn (c := 0) rfl rfl rfl ?_
    refine zeP rfl rfl ?_
    refine zeP rfl rfl ?_
    refine zeT1 rfl rfl (show zc1 .eq (Int32.ofNat 0) = true by decide) ?_
    simp only [q_writes, h1, cond_true, cond_false]
    exact p_writesB (t := t) (w := w) (v := v) (b := (q_blockOf W ((Int32.ofNat w)))) (g := (Int32.ofNat 0)) (W := W) (m := m) (by omega) hw ht h32
  · refine zeKn (c := 1) rfl rfl rfl ?_
    refine zeP rfl rfl ?_
    refine zeP rfl rfl ?_
    refine zeP rfl rfl ?_
    refine zeF1 rfl rfl (show zc1 .eq (Int32.ofNat 1) = false by decide) ?_
    refine zeP rfl rfl ?_
    refine zeP rfl rfl ?_
    refine zeKn (c := 16) rfl rfl rfl ?_
    refine zeCF rfl rfl rfl rfl rfl rfl (c_of (m := m) (W := W) (t := t) (k := 16) (by first | assumption | omega)) (by omega) ?_
    dsimp only [Option.toList, List.cons_append, List.nil_append]
    refine zeP rfl rfl ?_
    refine zeP rfl rfl ?_
    refine zeB1 rfl rfl (fun h2 => ?_) (fun h2 => ?_)
    · simp only [q_writes, h1, h2, cond_true, cond_false]
      exact p_writesB (t := t) (w := w) (v := v) (b := (q_blockOf W ((Int32.ofNat w)))) (g := (Int32.ofNat 1)) (W := W) (m := m) (by omega) hw ht h32
    · refine zeP rfl rfl ?_
      refine zeP rfl rfl ?_
      refine zeKn (c := 16) rfl rfl rfl ?_
      refine zeCF rfl rfl rfl rfl rfl rfl (c_of (m := m) (W := W) (t := t) (k := 16) (by first | assumption | omega)) (by omega) ?_
      dsimp only [Option.toList, List.cons_append, List.nil_append]
      refine zeCF rfl rfl rfl rfl rfl rfl (c_bits (m := m) (W := W) (s := (q_of W t 16)) ) (by omega) ?_
      dsimp only [Option.toList, List.cons_append, List.nil_append]
      refine zeP rfl rfl ?_
      refine zeGR rfl rfl zS137 rfl rfl ?_
      refine zeKn (c := 3) rfl rfl rfl ?_
      refine zeWL (k := 3) rfl (by omega) ?_
      refine zeB2 rfl rfl (fun h3 => ?_) (fun h3 => ?_)
      · simp only [q_writes, h1, h2, h3, cond_true, cond_false]
        exact p_writesB (t := t) (w := w) (v := v) (b := (q_blockOf W ((Int32.ofNat w)))) (g := (Int32.ofNat 1)) (W := W) (m := m) (by omega) hw ht h32
      · refine zeP rfl rfl ?_
        refine zeP rfl rfl ?_
        refine zeKn (c := 1) rfl rfl rfl ?_
        refine zeCF rfl rfl rfl rfl rfl rfl (c_itFalls (m := m) (W := W) (t := t) (y := 1) ht (by omega) (hw.L t ht).1 (hw.L t ht).2 hw.C.1 hw.C.2) (by omega) ?_
        dsimp only [Option.toList, List.cons_append, List.nil_append]
        refine zeKn (c := 0) rfl rfl rfl ?_
        exact zeRe rfl rfl rfl rfl (by simp only [q_writes, h1, h2, h3, cond_true, cond_false] <;> rfl) (by simp only [q_writes, h1, h2, h3, cond_true, cond_false] <;> rfl)
theorem c_writes {σ : Nat → Nat × (Nat → Int32)} {yy : (Nat → Nat → Int64) × Bool × Nat × Nat} {m : Nat → Nat → Int32} {W : Nat → Int32} {t : Nat} {w : Nat} {v : Int32} (hw : WG W) (ht : t < 4) (h32 : w < 32) : zF σ 6 1824 [.ref 137, .int (Int32.ofNat t), .int (Int32.ofNat w), .int v] (zS1, zrow m 138 W, yy) (.inl (some (.int (q_writes m W t w v).1))) (zS1, zrow ((q_writes m W t w v).2.2) 138 ((q_writes m W t w v).2.1), yy) := by
  intro d hd
  obtain ⟨d, rfl⟩ : ∃ k, d = k + 1 := ⟨d - 1, by omega⟩
  exact p_writes hd hw ht h32
def q_beginsGuess (W : Nat → Int32) (t : Nat) (l : Nat) : (Nat → Int32) := (q_logs ((q_leavesOut ((upd ((upd ((upd ((upd ((upd W (376 + 103 * t + 2) (Int32.ofNat 1))) (376 + 103 * t + 18) (q_of ((upd W (376 + 103 * t + 2) (Int32.ofNat 1))) t 0))) (376 + 103 * t + 19) (q_of ((upd ((upd W (376 + 103 * t + 2) (Int32.ofNat 1))) (376 + 103 * t + 18) (q_of ((upd W (376 + 103 * t + 2) (Int32.ofNat 1))) t 0))) t 1))) (376 + 103 * t + 20) (((upd ((upd ((upd W (376 + 103 * t + 2) (Int32.ofNat 1))) (376 + 103 * t + 18) (q_of ((upd W (376 + 103 * t + 2) (Int32.ofNat 1))) t 0))) (376 + 103 * t + 19) (q_of ((upd ((upd W (376 + 103 * t + 2) (Int32.ofNat 1))) (376 + 103 * t + 18) (q_of ((upd W (376 + 103 * t + 2) (Int32.ofNat 1))) t 0))) t 1))) 11))) (376 + 103 * t + 15) (q_blockOf ((upd ((upd ((upd ((upd W (376 + 103 * t + 2) (Int32.ofNat 1))) (376 + 103 * t + 18) (q_of ((upd W (376 + 103 * t + 2) (Int32.ofNat 1))) t 0))) (376 + 103 * t + 19) (q_of ((upd ((upd W (376 + 103 * t + 2) (Int32.ofNat 1))) (376 + 103 * t + 18) (q_of ((upd W (376 + 103 * t + 2) (Int32.ofNat 1))) t 0))) t 1))) (376 + 103 * t + 20) (((upd ((upd ((upd W (376 + 103 * t + 2) (Int32.ofNat 1))) (376 + 103 * t + 18) (q_of ((upd W (376 + 103 * t + 2) (Int32.ofNat 1))) t 0))) (376 + 103 * t + 19) (q_of ((upd ((upd W (376 + 103 * t + 2) (Int32.ofNat 1))) (376 + 103 * t + 18) (q_of ((upd W (376 + 103 * t + 2) (Int32.ofNat 1))) t 0))) t 1))) 11))) ((((upd ((upd ((upd ((upd W (376 + 103 * t + 2) (Int32.ofNat 1))) (376 + 103 * t + 18) (q_of ((upd W (376 + 103 * t + 2) (Int32.ofNat 1))) t 0))) (376 + 103 * t + 19) (q_of ((upd ((upd W (376 + 103 * t + 2) (Int32.ofNat 1))) (376 + 103 * t + 18) (q_of ((upd W (376 + 103 * t + 2) (Int32.ofNat 1))) t 0))) t 1))) (376 + 103 * t + 20) (((upd ((upd ((upd W (376 + 103 * t + 2) (Int32.ofNat 1))) (376 + 103 * t + 18) (q_of ((upd W (376 + 103 * t + 2) (Int32.ofNat 1))) t 0))) (376 + 103 * t + 19) (q_of ((upd ((upd W (376 + 103 * t + 2) (Int32.ofNat 1))) (376 + 103 * t + 18) (q_of ((upd W (376 + 103 * t + 2) (Int32.ofNat 1))) t 0))) t 1))) 11))) (16 + l)))))) t l)) ((Int32.ofNat t)) ((Int32.ofNat 0)) ((Int32.ofNat l)))
theorem p_beginsGuess {σ : Nat → Nat × (Nat → Int32)} {yy : (Nat → Nat → Int64) × Bool × Nat × Nat} {m : Nat → Nat → Int32} {W : Nat → Int32} {t : Nat} {l : Nat} {d : Nat} (hd : 4 ≤ d + 1) (hw : WG W) (ht : t < 4) (hl : l < 4) (hQ4 : nv W (376 + 103 * t + 10) < 4) : zEv σ (d + 1) 1827 0 [some (.ref 137), some (.int (Int32.ofNat t)), some (.int (Int32.ofNat l))] [] (zS1, zrow m 138 W, yy) (.inl none) (zS1, zrow m 138 ((q_beginsGuess W t l)), yy) := by
  refine zeP rfl rfl ?_
  refine zeGR rfl rfl zS137 rfl rfl ?_
  refine zeP rfl rfl ?_
  refine zeKn (c := 2) rfl rfl rfl ?_
  refine zeCF rfl rfl rfl rfl rfl rfl (c_at (m := m) (W := W) (t := t) (k := 2) ) (by omega) ?_
  dsimp only [Option.toList, List.cons_append, List.nil_append]
  refine zeKn (c := 1) rfl rfl rfl ?_
  refine zeWS (k := (376 + 103 * t + 2)) rfl (by omega) ?_
  refine zeP rfl rfl ?_
  refine zeGR rfl rfl zS137 rfl rfl ?_
  refine zeP rfl rfl ?_
  refine zeKn (c := 18) rfl rfl rfl ?_
  refine zeCF rfl rfl rfl rfl rfl rfl (c_at (m := m) (W := (upd W (376 + 103 * t + 2) (Int32.ofNat 1))) (t := t) (k := 18) ) (by omega) ?_
  dsimp only [Option.toList, List.cons_append, List.nil_append]
  refine zeP rfl rfl ?_
  refine zeP rfl rfl ?_
  refine zeKn (c := 0) rfl rfl rfl ?_
  refine zeCF rfl rfl rfl rfl rfl rfl (c_of (m := m) (W := (upd W (376 + 103 * t + 2) (Int32.ofNat 1))) (t := t) (k := 0) (by first | assumption | omega)) (by omega) ?_
  dsimp only [Option.toList, List.cons_append, List.nil_append]
  refine zeWS (k := (376 + 103 * t + 18)) rfl (by omega) ?_
  refine zeP rfl rfl ?_
  refine zeGR rfl rfl zS137 rfl rfl ?_
  refine zeP rfl rfl ?_
  refine zeKn (c := 19) rfl rfl rfl ?_
  refine zeCF rfl rfl rfl rfl rfl rfl (c_at (m := m) (W := (upd ((upd W (376 + 103 * t + 2) (Int32.ofNat 1))) (376 + 103 * t + 18) (q_of ((upd W (376 + 103 * t + 2) (Int32.ofNat 1))) t 0))) (t := t) (k := 19) ) (by omega) ?_
  dsimp only [Option.toList, List.cons_append, List.nil_append]
  refine zeP rfl rfl ?_
  refine zeP rfl rfl ?_
  refine zeKn (c := 1) rfl rfl rfl ?_
  refine zeCF rfl rfl rfl rfl rfl rfl (c_of (m := m) (W := (upd ((upd W (376 + 103 * t + 2) (Int32.ofNat 1))) (376 + 103 * t + 18) (q_of ((upd W (376 + 103 * t + 2) (Int32.ofNat 1))) t 0))) (t := t) (k := 1) (by first | assumption | omega)) (by omega) ?_
  dsimp only [Option.toList, List.cons_append, List.nil_append]
  refine zeWS (k := (376 + 103 * t + 19)) rfl (by omega) ?_
  refine zeP rfl rfl ?_
  refine zeGR rfl rfl zS137 rfl rfl ?_
  refine zeP rfl rfl ?_
  refine zeKn (c := 20) rfl rfl rfl ?_
  refine zeCF rfl rfl rfl rfl rfl rfl (c_at (m := m) (W := (upd ((upd ((upd W (376 + 103 * t + 2) (Int32.ofNat 1))) (376 + 103 * t + 18) (q_of ((upd W (376 + 103 * t + 2) (Int32.ofNat 1))) t 0))) (376 + 103 * t + 19) (q_of ((upd ((upd W (376 + 103 * t + 2) (Int32.ofNat 1))) (376 + 103 * t + 18) (q_of ((upd W (376 + 103 * t + 2) (Int32.ofNat 1))) t 0))) t 1))) (t := t) (k := 20) ) (by omega) ?_
  dsimp only [Option.toList, List.cons_append, List.nil_append]
  refine zeP rfl rfl ?_
  refine zeGR rfl rfl zS137 rfl rfl ?_
  refine zeKn (c := 11) rfl rfl rfl ?_
  refine zeWL (k := 11) rfl (by omega) ?_
  refine zeWS (k := (376 + 103 * t + 20)) rfl (by omega) ?_
  refine zeP rfl rfl ?_
  refine zeGR rfl rfl zS137 rfl rfl ?_
  refine zeP rfl rfl ?_
  refine zeKn (c := 15) rfl rfl rfl ?_
  refine zeCF rfl rfl rfl rfl rfl rfl (c_at (m := m) (W := (upd ((upd ((upd ((upd W (376 + 103 * t + 2) (Int32.ofNat 1))) (376 + 103 * t + 18) (q_of ((upd W (376 + 103 * t + 2) (Int32.ofNat 1))) t 0))) (376 + 103 * t + 19) (q_of ((upd ((upd W (376 + 103 * t + 2) (Int32.ofNat 1))) (376 + 103 * t + 18) (q_of ((upd W (376 + 103 * t + 2) (Int32.ofNat 1))) t 0))) t 1))) (376 + 103 * t + 20) (((upd ((upd ((upd W (376 + 103 * t + 2) (Int32.ofNat 1))) (376 + 103 * t + 18) (q_of ((upd W (376 + 103 * t + 2) (Int32.ofNat 1))) t 0))) (376 + 103 * t + 19) (q_of ((upd ((upd W (376 + 103 * t + 2) (Int32.ofNat 1))) (376 + 103 * t + 18) (q_of ((upd W (376 + 103 * t + 2) (Int32.ofNat 1))) t 0))) t 1))) 11))) (t := t) (k := 15) ) (by omega) ?_
  dsimp only [Option.toList, List.cons_append, List.nil_append]
  refine zeP rfl rfl ?_
  refine zeP rfl rfl ?_
  refine zeGR rfl rfl zS137 rfl rfl ?_
  refine zeKn (c := 16) rfl rfl rfl ?_
  refine zeP rfl rfl ?_
  refine zeAdd rfl ?_
  refine zeWL (k := (16 + l)) rfl (by omega) ?_
  refine zeCF rfl rfl rfl rfl rfl rfl (c_blockOf (m := m) (W := (upd ((upd ((upd ((upd W (376 + 103 * t + 2) (Int32.ofNat 1))) (376 + 103 * t + 18) (q_of ((upd W (376 + 103 * t + 2) (Int32.ofNat 1))) t 0))) (376 + 103 * t + 19) (q_of ((upd ((upd W (376 + 103 * t + 2) (Int32.ofNat 1))) (376 + 103 * t + 18) (q_of ((upd W (376 + 103 * t + 2) (Int32.ofNat 1))) t 0))) t 1))) (376 + 103 * t + 20) (((upd ((upd ((upd W (376 + 103 * t + 2) (Int32.ofNat 1))) (376 + 103 * t + 18) (q_of ((upd W (376 + 103 * t + 2) (Int32.ofNat 1))) t 0))) (376 + 103 * t + 19) (q_of ((upd ((upd W (376 + 103 * t + 2) (Int32.ofNat 1))) (376 + 103 * t + 18) (q_of ((upd W (376 + 103 * t + 2) (Int32.ofNat 1))) t 0))) t 1))) 11))) (w := (((upd ((upd ((upd ((upd W (376 + 103 * t + 2) (Int32.ofNat 1))) (376 + 103 * t + 18) (q_of ((upd W (376 + 103 * t + 2) (Int32.ofNat 1))) t 0))) (376 + 103 * t + 19) (q_of ((upd ((upd W (376 + 103 * t + 2) (Int32.ofNat 1))) (376 + 103 * t + 18) (q_of ((upd W (376 + 103 * t + 2) (Int32.ofNat 1))) t 0))) t 1))) (376 + 103 * t + 20) (((upd ((upd ((upd W (376 + 103 * t + 2) (Int32.ofNat 1))) (376 + 103 * t + 18) (q_of ((upd W (376 + 103 * t + 2) (Int32.ofNat 1))) t 0))) (376 + 103 * t + 19) (q_of ((upd ((upd W (376 + 103 * t + 2) (Int32.ofNat 1))) (376 + 103 * t + 18) (q_of ((upd W (376 + 103 * t + 2) (Int32.ofNat 1))) t 0))) t 1))) 11))) (16 + l))) (by simp (disch := omega) only [upd_ne]; exact hw.Z)) (by omega) ?_
  dsimp only [Option.toList, List.cons_append, List.nil_append]
  refine zeWS (k := (376 + 103 * t + 15)) rfl (by omega) ?_
  refine zeP rfl rfl ?_
  refine zeP rfl rfl ?_
  refine zeP rfl rfl ?_
  refine zeCF rfl rfl rfl rfl rfl rfl (c_leavesOut (m := m) (W := (upd ((upd ((upd ((upd ((upd W (376 + 103 * t + 2) (Int32.ofNat 1))) (376 + 103 * t + 18) (q_of ((upd W (376 + 103 * t + 2) (Int32.ofNat 1))) t 0))) (376 + 103 * t + 19) (q_of ((upd ((upd W (376 + 103 * t + 2) (Int32.ofNat 1))) (376 + 103 * t + 18) (q_of ((upd W (376 + 103 * t + 2) (Int32.ofNat 1))) t 0))) t 1))) (376 + 103 * t + 20) (((upd ((upd ((upd W (376 + 103 * t + 2) (Int32.ofNat 1))) (376 + 103 * t + 18) (q_of ((upd W (376 + 103 * t + 2) (Int32.ofNat 1))) t 0))) (376 + 103 * t + 19) (q_of ((upd ((upd W (376 + 103 * t + 2) (Int32.ofNat 1))) (376 + 103 * t + 18) (q_of ((upd W (376 + 103 * t + 2) (Int32.ofNat 1))) t 0))) t 1))) 11))) (376 + 103 * t + 15) (q_blockOf ((upd ((upd ((upd ((upd W (376 + 103 * t + 2) (Int32.ofNat 1))) (376 + 103 * t + 18) (q_of ((upd W (376 + 103 * t + 2) (Int32.ofNat 1))) t 0))) (376 + 103 * t + 19) (q_of ((upd ((upd W (376 + 103 * t + 2) (Int32.ofNat 1))) (376 + 103 * t + 18) (q_of ((upd W (376 + 103 * t + 2) (Int32.ofNat 1))) t 0))) t 1))) (376 + 103 * t + 20) (((upd ((upd ((upd W (376 + 103 * t + 2) (Int32.ofNat 1))) (376 + 103 * t + 18) (q_of ((upd W (376 + 103 * t + 2) (Int32.ofNat 1))) t 0))) (376 + 103 * t + 19) (q_of ((upd ((upd W (376 + 103 * t + 2) (Int32.ofNat 1))) (376 + 103 * t + 18) (q_of ((upd W (376 + 103 * t + 2) (Int32.ofNat 1))) t 0))) t 1))) 11))) ((((upd ((upd ((upd ((upd W (376 + 103 * t + 2) (Int32.ofNat 1))) (376 + 103 * t + 18) (q_of ((upd W (376 + 103 * t + 2) (Int32.ofNat 1))) t 0))) (376 + 103 * t + 19) (q_of ((upd ((upd W (376 + 103 * t + 2) (Int32.ofNat 1))) (376 + 103 * t + 18) (q_of ((upd W (376 + 103 * t + 2) (Int32.ofNat 1))) t 0))) t 1))) (376 + 103 * t + 20) (((upd ((upd ((upd W (376 + 103 * t + 2) (Int32.ofNat 1))) (376 + 103 * t + 18) (q_of ((upd W (376 + 103 * t + 2) (Int32.ofNat 1))) t 0))) (376 + 103 * t + 19) (q_of ((upd ((upd W (376 + 103 * t + 2) (Int32.ofNat 1))) (376 + 103 * t + 18) (q_of ((upd W (376 + 103 * t + 2) (Int32.ofNat 1))) t 0))) t 1))) 11))) (16 + l)))))) (t := t) (l := l) ht (by simp (disch := omega) only [nv,  upd_ne]; exact (hw.2 t ht).2.1.1) (by simp (disch := omega) only [nv,  upd_ne]; exact hQ4)) (by omega) ?_
  dsimp only [Option.toList, List.cons_append, List.nil_append]
  refine zeP rfl rfl ?_
  refine zeP rfl rfl ?_
  refine zeKn (c := 0) rfl rfl rfl ?_
  refine zeP rfl rfl ?_
  refine zeCF rfl rfl rfl rfl rfl rfl (c_logs (m := m) (W := (q_leavesOut ((upd ((upd ((upd ((upd ((upd W (376 + 103 * t + 2) (Int32.ofNat 1))) (376 + 103 * t + 18) (q_of ((upd W (376 + 103 * t + 2) (Int32.ofNat 1))) t 0))) (376 + 103 * t + 19) (q_of ((upd ((upd W (376 + 103 * t + 2) (Int32.ofNat 1))) (376 + 103 * t + 18) (q_of ((upd W (376 + 103 * t + 2) (Int32.ofNat 1))) t 0))) t 1))) (376 + 103 * t + 20) (((upd ((upd ((upd W (376 + 103 * t + 2) (Int32.ofNat 1))) (376 + 103 * t + 18) (q_of ((upd W (376 + 103 * t + 2) (Int32.ofNat 1))) t 0))) (376 + 103 * t + 19) (q_of ((upd ((upd W (376 + 103 * t + 2) (Int32.ofNat 1))) (376 + 103 * t + 18) (q_of ((upd W (376 + 103 * t + 2) (Int32.ofNat 1))) t 0))) t 1))) 11))) (376 + 103 * t + 15) (q_blockOf ((upd ((upd ((upd ((upd W (376 + 103 * t + 2) (Int32.ofNat 1))) (376 + 103 * t + 18) (q_of ((upd W (376 + 103 * t + 2) (Int32.ofNat 1))) t 0))) (376 + 103 * t + 19) (q_of ((upd ((upd W (376 + 103 * t + 2) (Int32.ofNat 1))) (376 + 103 * t + 18) (q_of ((upd W (376 + 103 * t + 2) (Int32.ofNat 1))) t 0))) t 1))) (376 + 103 * t + 20) (((upd ((upd ((upd W (376 + 103 * t + 2) (Int32.ofNat 1))) (376 + 103 * t + 18) (q_of ((upd W (376 + 103 * t + 2) (Int32.ofNat 1))) t 0))) (376 + 103 * t + 19) (q_of ((upd ((upd W (376 + 103 * t + 2) (Int32.ofNat 1))) (376 + 103 * t + 18) (q_of ((upd W (376 + 103 * t + 2) (Int32.ofNat 1))) t 0))) t 1))) 11))) ((((upd ((upd ((upd ((upd W (376 + 103 * t + 2) (Int32.ofNat 1))) (376 + 103 * t + 18) (q_of ((upd W (376 + 103 * t + 2) (Int32.ofNat 1))) t 0))) (376 + 103 * t + 19) (q_of ((upd ((upd W (376 + 103 * t + 2) (Int32.ofNat 1))) (376 + 103 * t + 18) (q_of ((upd W (376 + 103 * t + 2) (Int32.ofNat 1))) t 0))) t 1))) (376 + 103 * t + 20) (((upd ((upd ((upd W (376 + 103 * t + 2) (Int32.ofNat 1))) (376 + 103 * t + 18) (q_of ((upd W (376 + 103 * t + 2) (Int32.ofNat 1))) t 0))) (376 + 103 * t + 19) (q_of ((upd ((upd W (376 + 103 * t + 2) (Int32.ofNat 1))) (376 + 103 * t + 18) (q_of ((upd W (376 + 103 * t + 2) (Int32.ofNat 1))) t 0))) t 1))) 11))) (16 + l)))))) t l)) (t := (Int32.ofNat t)) (w := (Int32.ofNat 0)) (v := (Int32.ofNat l)) (by simp (disch := omega) only [nv, q_leavesOut,  upd_ne]; exact hw.C.1) (by simp (disch := omega) only [nv, q_leavesOut,  upd_ne]; exact hw.C.2)) (by omega) ?_
  dsimp only [Option.toList, List.cons_append, List.nil_append]
  exact zeRe rfl rfl rfl rfl (by rfl) (by rfl)
theorem c_beginsGuess {σ : Nat → Nat × (Nat → Int32)} {yy : (Nat → Nat → Int64) × Bool × Nat × Nat} {m : Nat → Nat → Int32} {W : Nat → Int32} {t : Nat} {l : Nat} (hw : WG W) (ht : t < 4) (hl : l < 4) (hQ4 : nv W (376 + 103 * t + 10) < 4) : zF σ 4 1827 [.ref 137, .int (Int32.ofNat t), .int (Int32.ofNat l)] (zS1, zrow m 138 W, yy) (.inl none) (zS1, zrow m 138 ((q_beginsGuess W t l)), yy) := by
  intro d hd
  obtain ⟨d, rfl⟩ : ∃ k, d = k + 1 := ⟨d - 1, by omega⟩
  exact p_beginsGuess hd hw ht hl hQ4
def q_isTaken (W : Nat → Int32) (t : Nat) (l : Nat) : (Nat → Int32) := (bif zc1 .ne ((((upd ((upd W (376 + 103 * t + 3) (Int32.ofNat 0))) (24 + l) ((((upd W (376 + 103 * t + 3) (Int32.ofNat 0))) (24 + l)) + (Int32.ofNat 1)))) (24 + l)) - (((upd ((upd W (376 + 103 * t + 3) (Int32.ofNat 0))) (24 + l) ((((upd W (376 + 103 * t + 3) (Int32.ofNat 0))) (24 + l)) + (Int32.ofNat 1)))) (24 + l)) / (((upd ((upd W (376 + 103 * t + 3) (Int32.ofNat 0))) (24 + l) ((((upd W (376 + 103 * t + 3) (Int32.ofNat 0))) (24 + l)) + (Int32.ofNat 1)))) 7) * (((upd ((upd W (376 + 103 * t + 3) (Int32.ofNat 0))) (24 + l) ((((upd W (376 + 103 * t + 3) (Int32.ofNat 0))) (24 + l)) + (Int32.ofNat 1)))) 7)) then (q_logs ((upd ((upd W (376 + 103 * t + 3) (Int32.ofNat 0))) (24 + l) ((((upd W (376 + 103 * t + 3) (Int32.ofNat 0))) (24 + l)) + (Int32.ofNat 1)))) ((Int32.ofNat t)) ((Int32.ofNat 3)) ((Int32.ofNat l))) else (q_logs ((upd ((upd ((upd W (376 + 103 * t + 3) (Int32.ofNat 0))) (24 + l) ((((upd W (376 + 103 * t + 3) (Int32.ofNat 0))) (24 + l)) + (Int32.ofNat 1)))) (20 + l) (if ((((upd ((upd W (376 + 103 * t + 3) (Int32.ofNat 0))) (24 + l) ((((upd W (376 + 103 * t + 3) (Int32.ofNat 0))) (24 + l)) + (Int32.ofNat 1)))) (20 + l)) + (Int32.ofNat 1)) < (Int32.ofNat 15) then ((((upd ((upd W (376 + 103 * t + 3) (Int32.ofNat 0))) (24 + l) ((((upd W (376 + 103 * t + 3) (Int32.ofNat 0))) (24 + l)) + (Int32.ofNat 1)))) (20 + l)) + (Int32.ofNat 1)) else (Int32.ofNat 15)))) ((Int32.ofNat t)) ((Int32.ofNat 3)) ((Int32.ofNat l))))
theorem p_isTaken {σ : Nat → Nat × (Nat → Int32)} {yy : (Nat → Nat → Int64) × Bool × Nat × Nat} {m : Nat → Nat → Int32} {W : Nat → Int32} {t : Nat} {l : Nat} {d : Nat} (hd : 2 ≤ d + 1) (hw : WG W) (ht : t < 4) (hl : l < 4) : zEv σ (d + 1) 1828 0 [some (.ref 137), some (.int (Int32.ofNat t)), some (.int (Int32.ofNat l))] [] (zS1, zrow m 138 W, yy) (.inl none) (zS1, zrow m 138 ((q_isTaken W t l)), yy) := by
  refine zeP rfl rfl ?_
  refine zeGR rfl rfl zS137 rfl rfl ?_
  refine zeP rfl rfl ?_
  refine zeKn (c := 3) rfl rfl rfl ?_
  refine zeCF rfl rfl rfl rfl rfl rfl (c_at (m := m) (W := W) (t := t) (k := 3) ) (by omega) ?_
  dsimp only [Option.toList, List.cons_append, List.nil_append]
  refine zeKn (c := 0) rfl rfl rfl ?_
  refine zeWS (k := (376 + 103 * t + 3)) rfl (by omega) ?_
  refine zeP rfl rfl ?_
  refine zeGR rfl rfl zS137 rfl rfl ?_
  refine zeKn (c := 24) rfl rfl rfl ?_
  refine zeP rfl rfl ?_
  refine zeAdd rfl ?_
  refine zeP rfl rfl ?_
  refine zeWL (k := (24 + l)) rfl (by omega) ?_
  refine zeKn (c := 1) rfl rfl rfl ?_
  refine zeP rfl rfl ?_
  refine zeWS (k := (24 + l)) rfl (by omega) ?_
  refine zeP rfl rfl ?_
  refine zeGR rfl rfl zS137 rfl rfl ?_
  refine zeKn (c := 24) rfl rfl rfl ?_
  refine zeP rfl rfl ?_
  refine zeAdd rfl ?_
  refine zeWL (k := (24 + l)) rfl (by omega) ?_
  refine zeP rfl rfl ?_
  refine zeGR rfl rfl zS137 rfl rfl ?_
  refine zeKn (c := 7) rfl rfl rfl ?_
  refine zeWL (k := 7) rfl (by omega) ?_
  refine zeRem rfl (by simp (disch := omega) only [upd_ne]; exact hw.H) ?_
  refine zeB1 rfl rfl (fun h1 => ?_) (fun h1 => ?_)
  · refine zeP rfl rfl ?_
    refine zeP rfl rfl ?_
    refine zeKn (c := 3) rfl rfl rfl ?_
    refine zeP rfl rfl ?_
    refine zeCF rfl rfl rfl rfl rfl rfl (c_logs (m := m) (W := (upd ((upd W (376 + 103 * t + 3) (Int32.ofNat 0))) (24 + l) ((((upd W (376 + 103 * t + 3) (Int32.ofNat 0))) (24 + l)) + (Int32.ofNat 1)))) (t := (Int32.ofNat t)) (w := (Int32.ofNat 3)) (v := (Int32.ofNat l)) (by simp (disch := omega) only [nv,  upd_ne]; exact hw.C.1) (by simp (disch := omega) only [nv,  upd_ne]; exact hw.C.2)) (by omega) ?_
    dsimp only [Option.toList, List.cons_append, List.nil_append]
    exact zeRe rfl rfl rfl rfl (by simp only [q_isTaken, h1, cond_true, cond_false] <;> rfl) (by simp only [q_isTaken, h1, cond_true, cond_false] <;> rfl)
  · refine zeP rfl rfl ?_
    refine zeGR rfl rfl zS137 rfl rfl ?_
    refine zeKn (c := 20) rfl rfl rfl ?_
    refine zeP rfl rfl ?_
    refine zeAdd rfl ?_
    refine zeKn (c := 15) rfl rfl rfl ?_
    refine zeP rfl rfl ?_
    refine zeGR rfl rfl zS137 rfl rfl ?_
    refine zeKn (c := 20) rfl rfl rfl ?_
    refine zeP rfl rfl ?_
    refine zeAdd rfl ?_
    refine zeWL (k := (20 + l)) rfl (by omega) ?_
    refine zeKn (c := 1) rfl rfl rfl ?_
    refine zeP rfl rfl ?_
    refine zeM rfl rfl rfl rfl rfl rfl rfl ?_
    refine zeWS (k := (20 + l)) rfl (by omega) ?_
    refine zeP rfl rfl ?_
    refine zeP rfl rfl ?_
    refine zeKn (c := 3) rfl rfl rfl ?_
    refine zeP rfl rfl ?_
    refine zeCF rfl rfl rfl rfl rfl rfl (c_logs (m := m) (W := (upd ((upd ((upd W (376 + 103 * t + 3) (Int32.ofNat 0))) (24 + l) ((((upd W (376 + 103 * t + 3) (Int32.ofNat 0))) (24 + l)) + (Int32.ofNat 1)))) (20 + l) (if ((((upd ((upd W (376 + 103 * t + 3) (Int32.ofNat 0))) (24 + l) ((((upd W (376 + 103 * t + 3) (Int32.ofNat 0))) (24 + l)) + (Int32.ofNat 1)))) (20 + l)) + (Int32.ofNat 1)) < (Int32.ofNat 15) then ((((upd ((upd W (376 + 103 * t + 3) (Int32.ofNat 0))) (24 + l) ((((upd W (376 + 103 * t + 3) (Int32.ofNat 0))) (24 + l)) + (Int32.ofNat 1)))) (20 + l)) + (Int32.ofNat 1)) else (Int32.ofNat 15)))) (t := (Int32.ofNat t)) (w := (Int32.ofNat 3)) (v := (Int32.ofNat l)) (by simp (disch := omega) only [nv,  upd_ne]; exact hw.C.1) (by simp (disch := omega) only [nv,  upd_ne]; exact hw.C.2)) (by omega) ?_
    dsimp only [Option.toList, List.cons_append, List.nil_append]
    exact zeRe rfl rfl rfl rfl (by simp only [q_isTaken, h1, cond_true, cond_false] <;> rfl) (by simp only [q_isTaken, h1, cond_true, cond_false] <;> rfl)
theorem c_isTaken {σ : Nat → Nat × (Nat → Int32)} {yy : (Nat → Nat → Int64) × Bool × Nat × Nat} {m : Nat → Nat → Int32} {W : Nat → Int32} {t : Nat} {l : Nat} (hw : WG W) (ht : t < 4) (hl : l < 4) : zF σ 2 1828 [.ref 137, .int (Int32.ofNat t), .int (Int32.ofNat l)] (zS1, zrow m 138 W, yy) (.inl none) (zS1, zrow m 138 ((q_isTaken W t l)), yy) := by
  intro d hd
  obtain ⟨d, rfl⟩ : ∃ k, d = k + 1 := ⟨d - 1, by omega⟩
  exact p_isTaken hd hw ht hl
