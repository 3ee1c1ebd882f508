/-! a3.pref a4.pref a5.pref a6.pwf a7.pref a8.rrule -/
section
noncomputable def q_readDeed (m : Nat → Nat → Int32) (W : Nat → Int32) (p : Nat) (t : Nat) (L : Nat) : Int32 × (Nat → Int32) × Nat × Nat := (bif zc2 .eq (q_kindHere m ((q_letters m p).1) ((q_letters m p).2)) (-1) then ((Int32.ofNat 0), W, (q_letters m p).1, (q_letters m p).2) else (bif zc2 .ne (Int32.ofNat L) (Int32.ofNat 24) then (bif Nat.beq ((((q_kindHere m ((q_letters m p).1) ((q_letters m p).2))).toNatClampNeg)) 0 then ((q_readTo m ((upd ((upd ((upd W ((376 + 103 * t + ((55 + (2 * L))))) ((Int32.ofNat (((q_kindHere m ((q_letters m p).1) ((q_letters m p).2))).toNatClampNeg))))) (((376 + 103 * t + ((55 + (2 * L)))) + 1)) ((Int32.ofNat 0)))) ((376 + 103 * t + 22)) ((Int32.ofNat (L + 1))))) ((q_letters m p).1) (((376 + 103 * t + ((55 + (2 * L)))) + 1)) ((Int32.ofNat 0)) ((Int32.ofNat 3))).1, (q_readTo m ((upd ((upd ((upd W ((376 + 103 * t + ((55 + (2 * L))))) ((Int32.ofNat (((q_kindHere m ((q_letters m p).1) ((q_letters m p).2))).toNatClampNeg))))) (((376 + 103 * t + ((55 + (2 * L)))) + 1)) ((Int32.ofNat 0)))) ((376 + 103 * t + 22)) ((Int32.ofNat (L + 1))))) ((q_letters m p).1) (((376 + 103 * t + ((55 + (2 * L)))) + 1)) ((Int32.ofNat 0)) ((Int32.ofNat 3))).2.1, (q_readTo m ((upd ((upd ((upd W ((376 + 103 * t + ((55 + (2 * L))))) ((Int32.ofNat (((q_kindHere m ((q_letters m p).1) ((q_letters m p).2))).toNatClampNeg))))) (((376 + 103 * t + ((55 + (2 * L)))) + 1)) ((Int32.ofNat 0)))) ((376 + 103 * t + 22)) ((Int32.ofNat (L + 1))))) ((q_letters m p).1) (((376 + 103 * t + ((55 + (2 * L)))) + 1)) ((Int32.ofNat 0)) ((Int32.ofNat 3))).2.2.1, (q_readTo m ((upd ((upd ((upd W ((376 + 103 * t + ((55 + (2 * L))))) ((Int32.ofNat (((q_kindHere m ((q_letters m p).1) ((q_letters m p).2))).toNatClampNeg))))) (((376 + 103 * t + ((55 + (2 * L)))) + 1)) ((Int32.ofNat 0)))) ((376 + 103 * t + 22)) ((Int32.ofNat (L + 1))))) ((q_letters m p).1) (((376 + 103 * t + ((55 + (2 * L)))) + 1)) ((Int32.ofNat 0)) ((Int32.ofNat 3))).2.2.2) else (bif Nat.beq ((((q_kindHere m ((q_letters m p).1) ((q_letters m p).2))).toNatClampNeg)) 1 then ((q_readTo m ((upd ((upd ((upd W ((376 + 103 * t + ((55 + (2 * L))))) ((Int32.ofNat (((q_kindHere m ((q_letters m p).1) ((q_letters m p).2))).toNatClampNeg))))) (((376 + 103 * t + ((55 + (2 * L)))) + 1)) ((Int32.ofNat 0)))) ((376 + 103 * t + 22)) ((Int32.ofNat (L + 1))))) ((q_letters m p).1) (((376 + 103 * t + ((55 + (2 * L)))) + 1)) ((Int32.ofNat 0)) ((Int32.ofNat 3))).1, (q_readTo m ((upd ((upd ((upd W ((376 + 103 * t + ((55 + (2 * L))))) ((Int32.ofNat (((q_kindHere m ((q_letters m p).1) ((q_letters m p).2))).toNatClampNeg))))) (((376 + 103 * t + ((55 + (2 * L)))) + 1)) ((Int32.ofNat 0)))) ((376 + 103 * t + 22)) ((Int32.ofNat (L + 1))))) ((q_letters m p).1) (((376 + 103 * t + ((55 + (2 * L)))) + 1)) ((Int32.ofNat 0)) ((Int32.ofNat 3))).2.1, (q_readTo m ((upd ((upd ((upd W ((376 + 103 * t + ((55 + (2 * L))))) ((Int32.ofNat (((q_kindHere m ((q_letters m p).1) ((q_letters m p).2))).toNatClampNeg))))) (((376 + 103 * t + ((55 + (2 * L)))) + 1)) ((Int32.ofNat 0)))) ((376 + 103 * t + 22)) ((Int32.ofNat (L + 1))))) ((q_letters m p).1) (((376 + 103 * t + ((55 + (2 * L)))) + 1)) ((Int32.ofNat 0)) ((Int32.ofNat 3))).2.2.1, (q_readTo m ((upd ((upd ((upd W ((376 + 103 * t + ((55 + (2 * L))))) ((Int32.ofNat (((q_kindHere m ((q_letters m p).1) ((q_letters m p).2))).toNatClampNeg))))) (((376 + 103 * t + ((55 + (2 * L)))) + 1)) ((Int32.ofNat 0)))) ((376 + 103 * t + 22)) ((Int32.ofNat (L + 1))))) ((q_letters m p).1) (((376 + 103 * t + ((55 + (2 * L)))) + 1)) ((Int32.ofNat 0)) ((Int32.ofNat 3))).2.2.2) else (bif Nat.beq ((((q_kindHere m ((q_letters m p).1) ((q_letters m p).2))).toNatClampNeg)) 2 then ((q_readTo m ((upd ((upd ((upd W ((376 + 103 * t + ((55 + (2 * L))))) ((Int32.ofNat (((q_kindHere m ((q_letters m p).1) ((q_letters m p).2))).toNatClampNeg))))) (((376 + 103 * t + ((55 + (2 * L)))) + 1)) ((Int32.ofNat 0)))) ((376 + 103 * t + 22)) ((Int32.ofNat (L + 1))))) ((q_letters m p).1) (((376 + 103 * t + ((55 + (2 * L)))) + 1)) ((Int32.ofNat 0)) ((Int32.ofNat 31))).1, (q_readTo m ((upd ((upd ((upd W ((376 + 103 * t + ((55 + (2 * L))))) ((Int32.ofNat (((q_kindHere m ((q_letters m p).1) ((q_letters m p).2))).toNatClampNeg))))) (((376 + 103 * t + ((55 + (2 * L)))) + 1)) ((Int32.ofNat 0)))) ((376 + 103 * t + 22)) ((Int32.ofNat (L + 1))))) ((q_letters m p).1) (((376 + 103 * t + ((55 + (2 * L)))) + 1)) ((Int32.ofNat 0)) ((Int32.ofNat 31))).2.1, (q_readTo m ((upd ((upd ((upd W ((376 + 103 * t + ((55 + (2 * L))))) ((Int32.ofNat (((q_kindHere m ((q_letters m p).1) ((q_letters m p).2))).toNatClampNeg))))) (((376 + 103 * t + ((55 + (2 * L)))) + 1)) ((Int32.ofNat 0)))) ((376 + 103 * t + 22)) ((Int32.ofNat (L + 1))))) ((q_letters m p).1) (((376 + 103 * t + ((55 + (2 * L)))) + 1)) ((Int32.ofNat 0)) ((Int32.ofNat 31))).2.2.1, (q_readTo m ((upd ((upd ((upd W ((376 + 103 * t + ((55 + (2 * L))))) ((Int32.ofNat (((q_kindHere m ((q_letters m p).1) ((q_letters m p).2))).toNatClampNeg))))) (((376 + 103 * t + ((55 + (2 * L)))) + 1)) ((Int32.ofNat 0)))) ((376 + 103 * t + 22)) ((Int32.ofNat (L + 1))))) ((q_letters m p).1) (((376 + 103 * t + ((55 + (2 * L)))) + 1)) ((Int32.ofNat 0)) ((Int32.ofNat 31))).2.2.2) else (bif Nat.beq ((((q_kindHere m ((q_letters m p).1) ((q_letters m p).2))).toNatClampNeg)) 3 then ((q_readTo m ((upd ((upd ((upd W ((376 + 103 * t + ((55 + (2 * L))))) ((Int32.ofNat (((q_kindHere m ((q_letters m p).1) ((q_letters m p).2))).toNatClampNeg))))) (((376 + 103 * t + ((55 + (2 * L)))) + 1)) ((Int32.ofNat 0)))) ((376 + 103 * t + 22)) ((Int32.ofNat (L + 1))))) ((q_letters m p).1) (((376 + 103 * t + ((55 + (2 * L)))) + 1)) ((Int32.ofNat 0)) ((Int32.ofNat 31))).1, (q_readTo m ((upd ((upd ((upd W ((376 + 103 * t + ((55 + (2 * L))))) ((Int32.ofNat (((q_kindHere m ((q_letters m p).1) ((q_letters m p).2))).toNatClampNeg))))) (((376 + 103 * t + ((55 + (2 * L)))) + 1)) ((Int32.ofNat 0)))) ((376 + 103 * t + 22)) ((Int32.ofNat (L + 1))))) ((q_letters m p).1) (((376 + 103 * t + ((55 + (2 * L)))) + 1)) ((Int32.ofNat 0)) ((Int32.ofNat 31))).2.1, (q_readTo m ((upd ((upd ((upd W ((376 + 103 * t + ((55 + (2 * L))))) ((Int32.ofNat (((q_kindHere m ((q_letters m p).1) ((q_letters m p).2))).toNatClampNeg))))) (((376 + 103 * t + ((55 + (2 * L)))) + 1)) ((Int32.ofNat 0)))) ((376 + 103 * t + 22)) ((Int32.ofNat (L + 1))))) ((q_letters m p).1) (((376 + 103 * t + ((55 + (2 * L)))) + 1)) ((Int32.ofNat 0)) ((Int32.ofNat 31))).2.2.1, (q_readTo m ((upd ((upd ((upd W ((376 + 103 * t + ((55 + (2 * L))))) ((Int32.ofNat (((q_kindHere m ((q_letters m p).1) ((q_letters m p).2))).toNatClampNeg))))) (((376 + 103 * t + ((55 + (2 * L)))) + 1)) ((Int32.ofNat 0)))) ((376 + 103 * t + 22)) ((Int32.ofNat (L + 1))))) ((q_letters m p).1) (((376 + 103 * t + ((55 + (2 * L)))) + 1)) ((Int32.ofNat 0)) ((Int32.ofNat 31))).2.2.2) else (bif Nat.beq ((((q_kindHere m ((q_letters m p).1) ((q_letters m p).2))).toNatClampNeg)) 4 then ((q_readTo m ((upd ((upd ((upd W ((376 + 103 * t + ((55 + (2 * L))))) ((Int32.ofNat (((q_kindHere m ((q_letters m p).1) ((q_letters m p).2))).toNatClampNeg))))) (((376 + 103 * t + ((55 + (2 * L)))) + 1)) ((Int32.ofNat 0)))) ((376 + 103 * t + 22)) ((Int32.ofNat (L + 1))))) ((q_letters m p).1) (((376 + 103 * t + ((55 + (2 * L)))) + 1)) ((Int32.ofNat 0)) ((Int32.ofNat 999))).1, (q_readTo m ((upd ((upd ((upd W ((376 + 103 * t + ((55 + (2 * L))))) ((Int32.ofNat (((q_kindHere m ((q_letters m p).1) ((q_letters m p).2))).toNatClampNeg))))) (((376 + 103 * t + ((55 + (2 * L)))) + 1)) ((Int32.ofNat 0)))) ((376 + 103 * t + 22)) ((Int32.ofNat (L + 1))))) ((q_letters m p).1) (((376 + 103 * t + ((55 + (2 * L)))) + 1)) ((Int32.ofNat 0)) ((Int32.ofNat 999))).2.1, (q_readTo m ((upd ((upd ((upd W ((376 + 103 * t + ((55 + (2 * L))))) ((Int32.ofNat (((q_kindHere m ((q_letters m p).1) ((q_letters m p).2))).toNatClampNeg))))) (((376 + 103 * t + ((55 + (2 * L)))) + 1)) ((Int32.ofNat 0)))) ((376 + 103 * t + 22)) ((Int32.ofNat (L + 1))))) ((q_letters m p).1) (((376 + 103 * t + ((55 + (2 * L)))) + 1)) ((Int32.ofNat 0)) ((Int32.ofNat 999))).2.2.1, (q_readTo m ((upd ((upd ((upd W ((376 + 103 * t + ((55 + (2 * L))))) ((Int32.ofNat (((q_kindHere m ((q_letters m p).1) ((q_letters m p).2))).toNatClampNeg))))) (((376 + 103 * t + ((55 + (2 * L)))) + 1)) ((Int32.ofNat 0)))) ((376 + 103 * t + 22)) ((Int32.ofNat (L + 1))))) ((q_letters m p).1) (((376 + 103 * t + ((55 + (2 * L)))) + 1)) ((Int32.ofNat 0)) ((Int32.ofNat 999))).2.2.2) else (bif Nat.beq ((((q_kindHere m ((q_letters m p).1) ((q_letters m p).2))).toNatClampNeg)) 5 then ((q_readTo m ((upd ((upd ((upd W ((376 + 103 * t + ((55 + (2 * L))))) ((Int32.ofNat (((q_kindHere m ((q_letters m p).1) ((q_letters m p).2))).toNatClampNeg))))) (((376 + 103 * t + ((55 + (2 * L)))) + 1)) ((Int32.ofNat 0)))) ((376 + 103 * t + 22)) ((Int32.ofNat (L + 1))))) ((q_letters m p).1) (((376 + 103 * t + ((55 + (2 * L)))) + 1)) ((Int32.ofNat 0)) ((Int32.ofNat 999))).1, (q_readTo m ((upd ((upd ((upd W ((376 + 103 * t + ((55 + (2 * L))))) ((Int32.ofNat (((q_kindHere m ((q_letters m p).1) ((q_letters m p).2))).toNatClampNeg))))) (((376 + 103 * t + ((55 + (2 * L)))) + 1)) ((Int32.ofNat 0)))) ((376 + 103 * t + 22)) ((Int32.ofNat (L + 1))))) ((q_letters m p).1) (((376 + 103 * t + ((55 + (2 * L)))) + 1)) ((Int32.ofNat 0)) ((Int32.ofNat 999))).2.1, (q_readTo m ((upd ((upd ((upd W ((376 + 103 * t + ((55 + (2 * L))))) ((Int32.ofNat (((q_kindHere m ((q_letters m p).1) ((q_letters m p).2))).toNatClampNeg))))) (((376 + 103 * t + ((55 + (2 * L)))) + 1)) ((Int32.ofNat 0)))) ((376 + 103 * t + 22)) ((Int32.ofNat (L + 1))))) ((q_letters m p).1) (((376 + 103 * t + ((55 + (2 * L)))) + 1)) ((Int32.ofNat 0)) ((Int32.ofNat 999))).2.2.1, (q_readTo m ((upd ((upd ((upd W ((376 + 103 * t + ((55 + (2 * L))))) ((Int32.ofNat (((q_kindHere m ((q_letters m p).1) ((q_letters m p).2))).toNatClampNeg))))) (((376 + 103 * t + ((55 + (2 * L)))) + 1)) ((Int32.ofNat 0)))) ((376 + 103 * t + 22)) ((Int32.ofNat (L + 1))))) ((q_letters m p).1) (((376 + 103 * t + ((55 + (2 * L)))) + 1)) ((Int32.ofNat 0)) ((Int32.ofNat 999))).2.2.2) else (bif Nat.beq ((((q_kindHere m ((q_letters m p).1) ((q_letters m p).2))).toNatClampNeg)) 6 then ((q_readTo m ((upd ((upd ((upd W ((376 + 103 * t + ((55 + (2 * L))))) ((Int32.ofNat (((q_kindHere m ((q_letters m p).1) ((q_letters m p).2))).toNatClampNeg))))) (((376 + 103 * t + ((55 + (2 * L)))) + 1)) ((Int32.ofNat 0)))) ((376 + 103 * t + 22)) ((Int32.ofNat (L + 1))))) ((q_letters m p).1) (((376 + 103 * t + ((55 + (2 * L)))) + 1)) ((Int32.ofNat 1)) ((Int32.ofNat 9))).1, (q_readTo m ((upd ((upd ((upd W ((376 + 103 * t + ((55 + (2 * L))))) ((Int32.ofNat (((q_kindHere m ((q_letters m p).1) ((q_letters m p).2))).toNatClampNeg))))) (((376 + 103 * t + ((55 + (2 * L)))) + 1)) ((Int32.ofNat 0)))) ((376 + 103 * t + 22)) ((Int32.ofNat (L + 1))))) ((q_letters m p).1) (((376 + 103 * t + ((55 + (2 * L)))) + 1)) ((Int32.ofNat 1)) ((Int32.ofNat 9))).2.1, (q_readTo m ((upd ((upd ((upd W ((376 + 103 * t + ((55 + (2 * L))))) ((Int32.ofNat (((q_kindHere m ((q_letters m p).1) ((q_letters m p).2))).toNatClampNeg))))) (((376 + 103 * t + ((55 + (2 * L)))) + 1)) ((Int32.ofNat 0)))) ((376 + 103 * t + 22)) ((Int32.ofNat (L + 1))))) ((q_letters m p).1) (((376 + 103 * t + ((55 + (2 * L)))) + 1)) ((Int32.ofNat 1)) ((Int32.ofNat 9))).2.2.1, (q_readTo m ((upd ((upd ((upd W ((376 + 103 * t + ((55 + (2 * L))))) ((Int32.ofNat (((q_kindHere m ((q_letters m p).1) ((q_letters m p).2))).toNatClampNeg))))) (((376 + 103 * t + ((55 + (2 * L)))) + 1)) ((Int32.ofNat 0)))) ((376 + 103 * t + 22)) ((Int32.ofNat (L + 1))))) ((q_letters m p).1) (((376 + 103 * t + ((55 + (2 * L)))) + 1)) ((Int32.ofNat 1)) ((Int32.ofNat 9))).2.2.2) else ((Int32.ofNat 1), (upd ((upd ((upd W ((376 + 103 * t + ((55 + (2 * L))))) ((Int32.ofNat (((q_kindHere m ((q_letters m p).1) ((q_letters m p).2))).toNatClampNeg))))) (((376 + 103 * t + ((55 + (2 * L)))) + 1)) ((Int32.ofNat 0)))) ((376 + 103 * t + 22)) ((Int32.ofNat (L + 1)))), (q_letters m p).1, (q_letters m p).2)))))))) else ((Int32.ofNat 0), W, (q_letters m p).1, (q_letters m p).2)))
theorem p_readDeed {σ : Nat → Nat × (Nat → Int32)} {yy : (Nat → Nat → Int64) × Bool × Nat × Nat} {m : Nat → Nat → Int32} {W : Nat → Int32} {p b : Nat} {t : Nat} {L : Nat} {d : Nat} (hd : 5 ≤ d + 1) (hG : PG m) (hp : p ≤ pe m) (ht : t < 4) (hL : W (376 + 103 * t + 22) = Int32.ofNat L) (hL2 : L ≤ 24) : zEv σ (d + 1) 1852 0 [some (.ref 137), some (.int (Int32.ofNat t)), none, none] [] (zS1, zrow (TP m p b) 138 W, yy) (.inl (some (.int (q_readDeed m W p t L).1))) (zS1, zrow (TP m ((q_readDeed m W p t L).2.2.1) ((q_readDeed m W p t L).2.2.2)) 138 ((q_readDeed m W p t L).2.1), yy) := by
  refine zeP rfl rfl ?_
  refine zeCF rfl rfl rfl rfl rfl rfl (c_letters  (m := m) (W := W) (p := p) (b := b) hG hp) (by omega) ?_
  dsimp only [Option.toList, List.cons_append, List.nil_append]
  refine zeP rfl rfl ?_
  refine zeCF rfl rfl rfl rfl rfl rfl (c_kindHere  (m := m) (W := W) (p := (q_letters m p).1) (b := (q_letters m p).2) hG (letters_le hG hp).2 (by have := (letters_le hG hp).1; have := hG.2; omega)) (by omega) ?_
  dsimp only [Option.toList, List.cons_append, List.nil_append]
  refine zeP rfl rfl ?_
  refine zeP rfl rfl ?_
  refine zeK (v := -1) rfl rfl rfl ?_
  refine zeB2 rfl rfl (fun h1 => ?_) (fun h1 => ?_)
  · refine zeKn (c := 0) rfl rfl rfl ?_
    exact zeRe rfl rfl rfl rfl (by simp only [q_readDeed, h1, cond_true, cond_false] <;> rfl) (by simp only [q_readDeed, h1, cond_true, cond_false] <;> rfl)
  · refine zeP rfl rfl ?_
    refine zeP rfl rfl ?_
    refine zeKn (c := 22) rfl rfl rfl ?_
    refine zeCF rfl rfl rfl rfl rfl rfl (c_of (m := TP m ((q_letters m p).1) ((q_letters m p).2)) (W := W) (t := t) (k := 22) (by first | assumption | omega)) (by omega) ?_
    dsimp only [Option.toList, List.cons_append, List.nil_append]
    rw [(show q_of W t 22 = Int32.ofNat L from hL)]
    refine zeKn (c := 24) rfl rfl rfl ?_
    refine zeB2 rfl rfl (fun h2 => ?_) (fun h2 => ?_)
    · have hkd : (q_kindHere m ((q_letters m p).1) ((q_letters m p).2)) = Int32.ofNat ((q_kindHere m ((q_letters m p).1) ((q_letters m p).2))).toNatClampNeg ∧ ((q_kindHere m ((q_letters m p).1) ((q_letters m p).2))).toNatClampNeg ≤ 7 := (kindHere_k h1)
      refine zeP rfl rfl ?_
      refine zeKn (c := 55) rfl rfl rfl ?_
      refine zeKn (c := 2) rfl rfl rfl ?_
      refine zeP rfl rfl ?_
      refine zeP rfl rfl ?_
      refine zeKn (c := 22) rfl rfl rfl ?_
      refine zeCF rfl rfl rfl rfl rfl rfl (c_of (m := TP m ((q_letters m p).1) ((q_letters m p).2)) (W := W) (t := t) (k := 22) (by first | assumption | omega)) (by omega) ?_
      dsimp only [Option.toList, List.cons_append, List.nil_append]
      rw [(show q_of W t 22 = Int32.ofNat L from hL)]
      refine zeMul rfl ?_
      refine zeAdd rfl ?_
      refine zeCF rfl rfl rfl rfl rfl rfl (c_at (m := TP m ((q_letters m p).1) ((q_letters m p).2)) (W := W) (t := t) (k := (55 + (2 * L))) ) (by omega) ?_
      dsimp only [Option.toList, List.cons_append, List.nil_append]
      refine zeP rfl rfl ?_
      refine zeP rfl rfl ?_
      refine zeGR rfl rfl zS137 rfl rfl ?_
      refine zeP rfl rfl ?_
      refine zeKn (c := ((q_kindHere m ((q_letters m p).1) ((q_letters m p).2))).toNatClampNeg) rfl rfl hkd.1 ?_
      refine zeWS (k := (376 + 103 * t + ((55 + (2 * L))))) rfl (by have := tne_t h2; omega) ?_
      refine zeP rfl rfl ?_
      refine zeGR rfl rfl zS137 rfl rfl ?_
      refine zeP rfl rfl ?_
      refine zeKn (c := 1) rfl rfl rfl ?_
      refine zeAdd rfl ?_
      refine zeKn (c := 0) rfl rfl rfl ?_
      refine zeWS (k := ((376 + 103 * t + ((55 + (2 * L)))) + 1)) rfl (by have := tne_t h2; omega) ?_
      refine zeP rfl rfl ?_
      refine zeGR rfl rfl zS137 rfl rfl ?_
      refine zeP rfl rfl ?_
      refine zeKn (c := 22) rfl rfl rfl ?_
      refine zeCF rfl rfl rfl rfl rfl rfl (c_at (m := TP m ((q_letters m p).1) ((q_letters m p).2)) (W := (upd ((upd W ((376 + 103 * t + ((55 + (2 * L))))) ((Int32.ofNat (((q_kindHere m ((q_letters m p).1) ((q_letters m p).2))).toNatClampNeg))))) (((376 + 103 * t + ((55 + (2 * L)))) + 1)) ((Int32.ofNat 0)))) (t := t) (k := 22) ) (by omega) ?_
      dsimp only [Option.toList, List.cons_append, List.nil_append]
      refine zeP rfl rfl ?_
      refine zeWL (k := (376 + 103 * t + 22)) rfl (by omega) ?_
      rw [(show (upd ((upd W ((376 + 103 * t + ((55 + (2 * L))))) ((Int32.ofNat (((q_kindHere m ((q_letters m p).1) ((q_letters m p).2))).toNatClampNeg))))) (((376 + 103 * t + ((55 + (2 * L)))) + 1)) ((Int32.ofNat 0))) ((376 + 103 * t + 22)) = Int32.ofNat L by rw [upd_ne _ _ (by omega), upd_ne _ _ (by omega)]; exact hL)]
      refine zeKn (c := 1) rfl rfl rfl ?_
      refine zeAdd rfl ?_
      refine zeWS (k := (376 + 103 * t + 22)) rfl (by omega) ?_
      refine zeKn (c := ((q_kindHere m ((q_letters m p).1) ((q_letters m p).2))).toNatClampNeg) rfl rfl hkd.1 ?_
      cases h3 : Nat.beq ((((q_kindHere m ((q_letters m p).1) ((q_letters m p).2))).toNatClampNeg)) 0 with
      | true =>
        refine zeSw (K := 0) rfl (by rw [Nat.eq_of_beq_eq_true h3]) rfl ?_
        refine zeP rfl rfl ?_
        refine zeP rfl rfl ?_
        refine zeKn (c := 1) rfl rfl rfl ?_
        refine zeAdd rfl ?_
        refine zeKn (c := 0) rfl rfl rfl ?_
        refine zeKn (c := 3) rfl rfl rfl ?_
        refine zeCF rfl rfl rfl rfl rfl rfl (c_readTo (k := ((376 + 103 * t + ((55 + (2 * L)))) + 1)) (lo := (Int32.ofNat 0)) (hi := (Int32.ofNat 3)) (m := m) (W := (upd ((upd ((upd W ((376 + 103 * t + ((55 + (2 * L))))) ((Int32.ofNat (((q_kindHere m ((q_letters m p).1) ((q_letters m p).2))).toNatClampNeg))))) (((376 + 103 * t + ((55 + (2 * L)))) + 1)) ((Int32.ofNat 0)))) ((376 + 103 * t + 22)) ((Int32.ofNat (L + 1))))) (p := (q_letters m p).1) (b := (q_letters m p).2) hG (letters_le hG hp).1 (by have := tne_t h2; omega)) (by omega) ?_
        dsimp only [Option.toList, List.cons_append, List.nil_append]
        exact zeRe rfl rfl rfl (zretB rfl rfl (readTo_le hG (letters_le hG hp).1).2.2) (by simp only [q_readDeed, h1, h2, h3, cond_true, cond_false] <;> rfl) (by simp only [q_readDeed, h1, h2, h3, cond_true, cond_false] <;> rfl)
      | false =>
        cases h4 : Nat.beq ((((q_kindHere m ((q_letters m p).1) ((q_letters m p).2))).toNatClampNeg)) 1 with
        | true =>
          refine zeSw (K := 1) rfl (by rw [Nat.eq_of_beq_eq_true h4]) rfl ?_
          refine zeP rfl rfl ?_
          refine zeP rfl rfl ?_
          refine zeKn (c := 1) rfl rfl rfl ?_
          refine zeAdd rfl ?_
          refine zeKn (c := 0) rfl rfl rfl ?_
          refine zeKn (c := 3) rfl rfl rfl ?_
          refine zeCF rfl rfl rfl rfl rfl rfl (c_readTo (k := ((376 + 103 * t + ((55 + (2 * L)))) + 1)) (lo := (Int32.ofNat 0)) (hi := (Int32.ofNat 3)) (m := m) (W := (upd ((upd ((upd W ((376 + 103 * t + ((55 + (2 * L))))) ((Int32.ofNat (((q_kindHere m ((q_letters m p).1) ((q_letters m p).2))).toNatClampNeg))))) (((376 + 103 * t + ((55 + (2 * L)))) + 1)) ((Int32.ofNat 0)))) ((376 + 103 * t + 22)) ((Int32.ofNat (L + 1))))) (p := (q_letters m p).1) (b := (q_letters m p).2) hG (letters_le hG hp).1 (by have := tne_t h2; omega)) (by omega) ?_
          dsimp only [Option.toList, List.cons_append, List.nil_append]
          exact zeRe rfl rfl rfl (zretB rfl rfl (readTo_le hG (letters_le hG hp).1).2.2) (by simp only [q_readDeed, h1, h2, h3, h4, cond_true, cond_false] <;> rfl) (by simp only [q_readDeed, h1, h2, h3, h4, cond_true, cond_false] <;> rfl)
        | false =>
          cases h5 : Nat.beq ((((q_kindHere m ((q_letters m p).1) ((q_letters m p).2))).toNatClampNeg)) 2 with
          | true =>
            refine zeSw (K := 2) rfl (by rw [Nat.eq_of_beq_eq_true h5]) rfl ?_
            refine zeP rfl rfl ?_
            refine zeP rfl rfl ?_
            refine zeKn (c := 1) rfl rfl rfl ?_
            refine zeAdd rfl ?_
            refine zeKn (c := 0) rfl rfl rfl ?_
            refine zeKn (c := 31) rfl rfl rfl ?_
            refine zeCF rfl rfl rfl rfl rfl rfl (c_readTo (k := ((376 + 103 * t + ((55 + (2 * L)))) + 1)) (lo := (Int32.ofNat 0)) (hi := (Int32.ofNat 31)) (m := m) (W := (upd ((upd ((upd W ((376 + 103 * t + ((55 + (2 * L))))) ((Int32.ofNat (((q_kindHere m ((q_letters m p).1) ((q_letters m p).2))).toNatClampNeg))))) (((376 + 103 * t + ((55 + (2 * L)))) + 1)) ((Int32.ofNat 0)))) ((376 + 103 * t + 22)) ((Int32.ofNat (L + 1))))) (p := (q_letters m p).1) (b := (q_letters m p).2) hG (letters_le hG hp).1 (by have := tne_t h2; omega)) (by omega) ?_
            dsimp only [Option.toList, List.cons_append, List.nil_append]
            exact zeRe rfl rfl rfl (zretB rfl rfl (readTo_le hG (letters_le hG hp).1).2.2) (by simp only [q_readDeed, h1, h2, h3, h4, h5, cond_true, cond_false] <;> rfl) (by simp only [q_readDeed, h1, h2, h3, h4, h5, cond_true, cond_false] <;> rfl)
          | false =>
            cases h6 : Nat.beq ((((q_kindHere m ((q_letters m p).1) ((q_letters m p).2))).toNatClampNeg)) 3 with
            | true =>
              refine zeSw (K := 3) rfl (by rw [Nat.eq_of_beq_eq_true h6]) rfl ?_
              refine zeP rfl rfl ?_
              refine zeP rfl rfl ?_
              refine zeKn (c := 1) rfl rfl rfl ?_
              refine zeAdd rfl ?_
              refine zeKn (c := 0) rfl rfl rfl ?_
              refine zeKn (c := 31) rfl rfl rfl ?_
              refine zeCF rfl rfl rfl rfl rfl rfl (c_readTo (k := ((376 + 103 * t + ((55 + (2 * L)))) + 1)) (lo := (Int32.ofNat 0)) (hi := (Int32.ofNat 31)) (m := m) (W := (upd ((upd ((upd W ((376 + 103 * t + ((55 + (2 * L))))) ((Int32.ofNat (((q_kindHere m ((q_letters m p).1) ((q_letters m p).2))).toNatClampNeg))))) (((376 + 103 * t + ((55 + (2 * L)))) + 1)) ((Int32.ofNat 0)))) ((376 + 103 * t + 22)) ((Int32.ofNat (L + 1))))) (p := (q_letters m p).1) (b := (q_letters m p).2) hG (letters_le hG hp).1 (by have := tne_t h2; omega)) (by omega) ?_
              dsimp only [Option.toList, List.cons_append, List.nil_append]
              exact zeRe rfl rfl rfl (zretB rfl rfl (readTo_le hG (letters_le hG hp).1).2.2) (by simp only [q_readDeed, h1, h2, h3, h4, h5, h6, cond_true, cond_false] <;> rfl) (by simp only [q_readDeed, h1, h2, h3, h4, h5, h6, cond_true, cond_false] <;> rfl)
            | false =>
              cases h7 : Nat.beq ((((q_kindHere m ((q_letters m p).1) ((q_letters m p).2))).toNatClampNeg)) 4 with
              | true =>
                refine zeSw (K := 4) rfl (by rw [Nat.eq_of_beq_eq_true h7]) rfl ?_
                refine zeP rfl rfl ?_
                refine zeP rfl rfl ?_
                refine zeKn (c := 1) rfl rfl rfl ?_
                refine zeAdd rfl ?_
                refine zeKn (c := 0) rfl rfl rfl ?_
                refine zeKn (c := 999) rfl rfl rfl ?_
                refine zeCF rfl rfl rfl rfl rfl rfl (c_readTo (k := ((376 + 103 * t + ((55 + (2 * L)))) + 1)) (lo := (Int32.ofNat 0)) (hi := (Int32.ofNat 999)) (m := m) (W := (upd ((upd ((upd W ((376 + 103 * t + ((55 + (2 * L))))) ((Int32.ofNat (((q_kindHere m ((q_letters m p).1) ((q_letters m p).2))).toNatClampNeg))))) (((376 + 103 * t + ((55 + (2 * L)))) + 1)) ((Int32.ofNat 0)))) ((376 + 103 * t + 22)) ((Int32.ofNat (L + 1))))) (p := (q_letters m p).1) (b := (q_letters m p).2) hG (letters_le hG hp).1 (by have := tne_t h2; omega)) (by omega) ?_
                dsimp only [Option.toList, List.cons_append, List.nil_append]
                exact zeRe rfl rfl rfl (zretB rfl rfl (readTo_le hG (letters_le hG hp).1).2.2) (by simp only [q_readDeed, h1, h2, h3, h4, h5, h6, h7, cond_true, cond_false] <;> rfl) (by simp only [q_readDeed, h1, h2, h3, h4, h5, h6, h7, cond_true, cond_false] <;> rfl)
              | false =>
                cases h8 : Nat.beq ((((q_kindHere m ((q_letters m p).1) ((q_letters m p).2))).toNatClampNeg)) 5 with
                | true =>
                  refine zeSw (K := 5) rfl (by rw [Nat.eq_of_beq_eq_true h8]) rfl ?_
                  refine zeP rfl rfl ?_
                  refine zeP rfl rfl ?_
                  refine zeKn (c := 1) rfl rfl rfl ?_
                  refine zeAdd rfl ?_
                  refine zeKn (c := 0) rfl rfl rfl ?_
                  refine zeKn (c := 999) rfl rfl rfl ?_
                  refine zeCF rfl rfl rfl rfl rfl rfl (c_readTo (k := ((376 + 103 * t + ((55 + (2 * L)))) + 1)) (lo := (Int32.ofNat 0)) (hi := (Int32.ofNat 999)) (m := m) (W := (upd ((upd ((upd W ((376 + 103 * t + ((55 + (2 * L))))) ((Int32.ofNat (((q_kindHere m ((q_letters m p).1) ((q_letters m p).2))).toNatClampNeg))))) (((376 + 103 * t + ((55 + (2 * L)))) + 1)) ((Int32.ofNat 0)))) ((376 + 103 * t + 22)) ((Int32.ofNat (L + 1))))) (p := (q_letters m p).1) (b := (q_letters m p).2) hG (letters_le hG hp).1 (by have := tne_t h2; omega)) (by omega) ?_
                  dsimp only [Option.toList, List.cons_append, List.nil_append]
                  exact zeRe rfl rfl rfl (zretB rfl rfl (readTo_le hG (letters_le hG hp).1).2.2) (by simp only [q_readDeed, h1, h2, h3, h4, h5, h6, h7, h8, cond_true, cond_false] <;> rfl) (by simp only [q_readDeed, h1, h2, h3, h4, h5, h6, h7, h8, cond_true, cond_false] <;> rfl)
                | false =>
                  cases h9 : Nat.beq ((((q_kindHere m ((q_letters m p).1) ((q_letters m p).2))).toNatClampNeg)) 6 with
                  | true =>
                    refine zeSw (K := 6) rfl (by rw [Nat.eq_of_beq_eq_true h9]) rfl ?_
                    refine zeP rfl rfl ?_
                    refine zeP rfl rfl ?_
                    refine zeKn (c := 1) rfl rfl rfl ?_
                    refine zeAdd rfl ?_
                    refine zeKn (c := 1) rfl rfl rfl ?_
                    refine zeKn (c := 9) rfl rfl rfl ?_
                    refine zeCF rfl rfl rfl rfl rfl rfl (c_readTo (k := ((376 + 103 * t + ((55 + (2 * L)))) + 1)) (lo := (Int32.ofNat 1)) (hi := (Int32.ofNat 9)) (m := m) (W := (upd ((upd ((upd W ((376 + 103 * t + ((55 + (2 * L))))) ((Int32.ofNat (((q_kindHere m ((q_letters m p).1) ((q_letters m p).2))).toNatClampNeg))))) (((376 + 103 * t + ((55 + (2 * L)))) + 1)) ((Int32.ofNat 0)))) ((376 + 103 * t + 22)) ((Int32.ofNat (L + 1))))) (p := (q_letters m p).1) (b := (q_letters m p).2) hG (letters_le hG hp).1 (by have := tne_t h2; omega)) (by omega) ?_
                    dsimp only [Option.toList, List.cons_append, List.nil_append]
                    exact zeRe rfl rfl rfl (zretB rfl rfl (readTo_le hG (letters_le hG hp).1).2.2) (by simp only [q_readDeed, h1, h2, h3, h4, h5, h6, h7, h8, h9, cond_true, cond_false] <;> rfl) (by simp only [q_readDeed, h1, h2, h3, h4, h5, h6, h7, h8, h9, cond_true, cond_false] <;> rfl)
                  | false =>
                    have hB : (((q_kindHere m ((q_letters m p).1) ((q_letters m p).2))).toNatClampNeg) = 7 := by
                      have e0 := Nat.ne_of_beq_eq_false h3
                      have e1 := Nat.ne_of_beq_eq_false h4
                      have e2 := Nat.ne_of_beq_eq_false h5
                      have e3 := Nat.ne_of_beq_eq_false h6
                      have e4 := Nat.ne_of_beq_eq_false h7
                      have e5 := Nat.ne_of_beq_eq_false h8
                      have e6 := Nat.ne_of_beq_eq_false h9
                      have eB := hkd.2
                      omega
                    refine zeSw (K := 7) rfl (by rw [hB]) rfl ?_
                    refine zeKn (c := 1) rfl rfl rfl ?_
                    exact zeRe rfl rfl rfl rfl (by simp only [q_readDeed, h1, h2, h3, h4, h5, h6, h7, h8, h9, cond_true, cond_false] <;> rfl) (by simp only [q_readDeed, h1, h2, h3, h4, h5, h6, h7, h8, h9, cond_true, cond_false] <;> rfl)
    · refine zeKn (c := 0) rfl rfl rfl ?_
      exact zeRe rfl rfl rfl rfl (by simp only [q_readDeed, h1, h2, cond_true, cond_false] <;> rfl) (by simp only [q_readDeed, h1, h2, cond_true, cond_false] <;> rfl)
theorem c_readDeed {σ : Nat → Nat × (Nat → Int32)} {yy : (Nat → Nat → Int64) × Bool × Nat × Nat} {m : Nat → Nat → Int32} {W : Nat → Int32} {p b : Nat} {t : Nat} {L : Nat} (hG : PG m) (hp : p ≤ pe m) (ht : t < 4) (hL : W (376 + 103 * t + 22) = Int32.ofNat L) (hL2 : L ≤ 24) : zF σ 5 1852 [.ref 137, .int (Int32.ofNat t)] (zS1, zrow (TP m p b) 138 W, yy) (.inl (some (.int (q_readDeed m W p t L).1))) (zS1, zrow (TP m ((q_readDeed m W p t L).2.2.1) ((q_readDeed m W p t L).2.2.2)) 138 ((q_readDeed m W p t L).2.1), yy) := by
  intro d hd
  obtain ⟨d, rfl⟩ : ∃ k, d = k + 1 := ⟨d - 1, by omega⟩
  exact p_readDeed hd hG hp ht hL hL2
theorem readDeed_le {m : Nat → Nat → Int32} {W : Nat → Int32} {p t L : Nat} (hG : PG m) (hp : p ≤ pe m) : RB m (q_readDeed m W p t L) := by
  have h1 := letters_le hG hp
  have h0 : RB m (Int32.ofNat 0, W, (q_letters m p).1, (q_letters m p).2) := ⟨h1.1, h1.2, Or.inl rfl⟩
  have h01 : ∀ V, RB m (Int32.ofNat 1, V, (q_letters m p).1, (q_letters m p).2) := fun V => ⟨h1.1, h1.2, Or.inr rfl⟩
  have h2 : ∀ (W : Nat → Int32) (k : Nat) (lo hi : Int32), RB m ((q_readTo m W (q_letters m p).1 k lo hi).1, (q_readTo m W (q_letters m p).1 k lo hi).2.1, (q_readTo m W (q_letters m p).1 k lo hi).2.2.1, (q_readTo m W (q_letters m p).1 k lo hi).2.2.2) := fun W k lo hi => readTo_le hG h1.1
  unfold q_readDeed
  refine RB.bif h0 (RB.bif ?_ h0)
  generalize ((q_kindHere m ((q_letters m p).1) ((q_letters m p).2)).toNatClampNeg) = K
  refine RB.bif (h2 _ _ _ _) (RB.bif (h2 _ _ _ _) (RB.bif (h2 _ _ _ _) (RB.bif (h2 _ _ _ _) (RB.bif (h2 _ _ _ _) (RB.bif (h2 _ _ _ _) (RB.bif (h2 _ _ _ _) (h01 _)))))))
theorem readDeed_full {m : Nat → Nat → Int32} {W : Nat → Int32} {p t L : Nat} (h : L = 24) : zc1 .ne (q_readDeed m W p t L).1 = false := by
  subst h
  unfold q_readDeed
  cases zc2 .eq (q_kindHere m (q_letters m p).1 (q_letters m p).2) (-1) with
  | true => rfl
  | false => rfl
/-- where a deed's reading leaves the world alone; the number of deeds behind it -/
theorem readDeed_W {m : Nat → Nat → Int32} {W : Nat → Int32} {p t L : Nat} (hL2 : L ≤ 24) {c : Nat} (hc : c < 376 + 103 * t + 22 ∨ 376 + 103 * t + 103 ≤ c) : (q_readDeed m W p t L).2.1 c = W c := by
  have key : ∀ X : Int32 × (Nat → Int32) × Nat × Nat, X = q_readDeed m W p t L → X.2.1 c = W c := by
    intro X hX
    rw [hX]
    unfold q_readDeed
    refine cnd4 (fun X : Int32 × (Nat → Int32) × Nat × Nat => X.2.1 c = W c) (fun _ => rfl) (fun _ => cnd4 (fun X : Int32 × (Nat → Int32) × Nat × Nat => X.2.1 c = W c) (fun h24 => ?_) (fun _ => rfl))
    have := tne_t h24
    generalize ((q_kindHere m ((q_letters m p).1) ((q_letters m p).2)).toNatClampNeg) = K
    have hw : upd (upd (upd W (376 + 103 * t + (55 + 2 * L)) (Int32.ofNat K)) (376 + 103 * t + (55 + 2 * L) + 1) (Int32.ofNat 0)) (376 + 103 * t + 22) (Int32.ofNat (L + 1)) c = W c := by
      rw [upd_ne _ _ (by omega), upd_ne _ _ (by omega), upd_ne _ _ (by omega)]
    revert hw
    generalize upd (upd (upd W (376 + 103 * t + (55 + 2 * L)) (Int32.ofNat K)) (376 + 103 * t + (55 + 2 * L) + 1) (Int32.ofNat 0)) (376 + 103 * t + 22) (Int32.ofNat (L + 1)) = V
    intro hw
    have h2 : ∀ (lo hi : Int32), (q_readTo m V (q_letters m p).1 (376 + 103 * t + (55 + 2 * L) + 1) lo hi).2.1 c = W c := fun lo hi => (readTo_ne (by omega)).trans hw
    refine cnd4 (fun X : Int32 × (Nat → Int32) × Nat × Nat => X.2.1 c = W c) (fun _ => h2 _ _) (fun _ => cnd4 (fun X : Int32 × (Nat → Int32) × Nat × Nat => X.2.1 c = W c) (fun _ => h2 _ _) (fun _ => cnd4 (fun X : Int32 × (Nat → Int32) × Nat × Nat => X.2.1 c = W c) (fun _ => h2 _ _) (fun _ => cnd4 (fun X : Int32 × (Nat → Int32) × Nat × Nat => X.2.1 c = W c) (fun _ => h2 _ _) (fun _ => cnd4 (fun X : Int32 × (Nat → Int32) × Nat × Nat => X.2.1 c = W c) (fun _ => h2 _ _) (fun _ => cnd4 (fun X : Int32 × (Nat → Int32) × Nat × Nat => X.2.1 c = W c) (fun _ => h2 _ _) (fun _ => cnd4 (fun X : Int32 × (Nat → Int32) × Nat × Nat => X.2.1 c = W c) (fun _ => h2 _ _) (fun _ => hw)))))))
  exact key _ rfl
theorem readTo_ok {m : Nat → Nat → Int32} {W : Nat → Int32} {p k a c : Nat} (ha : a ≤ 9999) (hc : c ≤ 9999) (h : ¬ (q_readTo m W p k (Int32.ofNat a) (Int32.ofNat c)).1 = 0) : ∃ n, a ≤ n ∧ n ≤ c ∧ (q_readTo m W p k (Int32.ofNat a) (Int32.ofNat c)).2.1 = upd W k (Int32.ofNat n) := by
  unfold q_readTo at h ⊢
  cases h1 : zc2 .eq (q_number m p (Int32.ofNat a) (Int32.ofNat c)).1 (-1) with
  | true =>
    rw [h1] at h
    exact absurd rfl h
  | false =>
    have := number_k (by omega) (by omega) (zeq_f h1)
    refine ⟨_, this.2.2, this.2.1, ?_⟩
    show upd W k (q_number m p (Int32.ofNat a) (Int32.ofNat c)).1 = _
    rw [← this.1]
theorem ne1 {x : Int32} (h : zc1 .ne x = true) : ¬ x = 0 := of_decide_eq_true h
/-- a deed that is read -/
noncomputable def RS (W : Nat → Int32) (t L : Nat) (X : Int32 × (Nat → Int32) × Nat × Nat) : Prop := ¬ X.1 = 0 → ∃ K n, K ≤ 7 ∧ n ≤ 999 ∧ (K ≤ 1 → n ≤ 3) ∧ (K ≤ 3 → n ≤ 31) ∧ L ≠ 24 ∧ X.2.1 = upd (upd (upd (upd W (376 + 103 * t + (55 + 2 * L)) (Int32.ofNat K)) (376 + 103 * t + (55 + 2 * L) + 1) (Int32.ofNat 0)) (376 + 103 * t + 22) (Int32.ofNat (L + 1))) (376 + 103 * t + (55 + 2 * L) + 1) (Int32.ofNat n)
theorem RS.no {W V : Nat → Int32} {t L p b : Nat} : RS W t L (Int32.ofNat 0, V, p, b) := fun h => absurd rfl h
theorem readDeed_s {m : Nat → Nat → Int32} {W : Nat → Int32} {p t L : Nat} : RS W t L (q_readDeed m W p t L) := by
  unfold q_readDeed
  refine cnd4 (RS W t L) (fun _ => RS.no) (fun hk => cnd4 (RS W t L) (fun h24 => ?_) (fun _ => RS.no))
  have hL := tne_t h24
  have hK := (kindHere_k hk).2
  revert hK
  generalize ((q_kindHere m ((q_letters m p).1) ((q_letters m p).2)).toNatClampNeg) = K
  intro hK
  have fin : ∀ {a c : Nat}, a ≤ 9999 → c ≤ 999 → (K ≤ 1 → c ≤ 3) → (K ≤ 3 → c ≤ 31) → RS W t L ((q_readTo m (upd (upd (upd W (376 + 103 * t + (55 + 2 * L)) (Int32.ofNat K)) (376 + 103 * t + (55 + 2 * L) + 1) (Int32.ofNat 0)) (376 + 103 * t + 22) (Int32.ofNat (L + 1))) (q_letters m p).1 (376 + 103 * t + (55 + 2 * L) + 1) (Int32.ofNat a) (Int32.ofNat c)).1, (q_readTo m (upd (upd (upd W (376 + 103 * t + (55 + 2 * L)) (Int32.ofNat K)) (376 + 103 * t + (55 + 2 * L) + 1) (Int32.ofNat 0)) (376 + 103 * t + 22) (Int32.ofNat (L + 1))) (q_letters m p).1 (376 + 103 * t + (55 + 2 * L) + 1) (Int32.ofNat a) (Int32.ofNat c)).2.1, (q_readTo m (upd (upd (upd W (376 + 103 * t + (55 + 2 * L)) (Int32.ofNat K)) (376 + 103 * t + (55 + 2 * L) + 1) (Int32.ofNat 0)) (376 + 103 * t + 22) (Int32.ofNat (L + 1))) (q_letters m p).1 (376 + 103 * t + (55 + 2 * L) + 1) (Int32.ofNat a) (Int32.ofNat c)).2.2.1, (q_readTo m (upd (upd (upd W (376 + 103 * t + (55 + 2 * L)) (Int32.ofNat K)) (376 + 103 * t + (55 + 2 * L) + 1) (Int32.ofNat 0)) (376 + 103 * t + 22) (Int32.ofNat (L + 1))) (q_letters m p).1 (376 + 103 * t + (55 + 2 * L) + 1) (Int32.ofNat a) (Int32.ofNat c)).2.2.2) := by
    intro a c ha hc h2 h3 h
    obtain ⟨n, g1, g2, g3⟩ := readTo_ok ha (by omega) h
    exact ⟨K, n, hK, by omega, fun q => by have := h2 q; omega, fun q => by have := h3 q; omega, hL, g3⟩
  refine cnd4 (RS W t L) (fun k => fin (by omega) (by omega) (by have := Nat.eq_of_beq_eq_true k; omega) (by have := Nat.eq_of_beq_eq_true k; omega)) (fun k0 => ?_)
  refine cnd4 (RS W t L) (fun k => fin (by omega) (by omega) (by have := Nat.eq_of_beq_eq_true k; omega) (by have := Nat.eq_of_beq_eq_true k; omega)) (fun k1 => ?_)
  refine cnd4 (RS W t L) (fun k => fin (by omega) (by omega) (by have := Nat.eq_of_beq_eq_true k; omega) (by have := Nat.eq_of_beq_eq_true k; omega)) (fun k2 => ?_)
  refine cnd4 (RS W t L) (fun k => fin (by omega) (by omega) (by have := Nat.eq_of_beq_eq_true k; omega) (by have := Nat.eq_of_beq_eq_true k; omega)) (fun k3 => ?_)
  have n0 := Nat.ne_of_beq_eq_false k0
  have n1 := Nat.ne_of_beq_eq_false k1
  have n2 := Nat.ne_of_beq_eq_false k2
  have n3 := Nat.ne_of_beq_eq_false k3
  refine cnd4 (RS W t L) (fun k => fin (by omega) (by omega) (by omega) (by omega)) (fun k4 => ?_)
  refine cnd4 (RS W t L) (fun k => fin (by omega) (by omega) (by omega) (by omega)) (fun k5 => ?_)
  refine cnd4 (RS W t L) (fun k => fin (by omega) (by omega) (by omega) (by omega)) (fun k6 => ?_)
  intro _
  refine ⟨K, 0, hK, by omega, by omega, by omega, hL, ?_⟩
  funext c
  by_cases c1 : c = 376 + 103 * t + (55 + 2 * L) + 1
  · subst c1
    rw [upd_at]
    show upd (upd (upd W _ _) _ _) (376 + 103 * t + 22) _ _ = _
    rw [upd_ne _ _ (by omega), upd_at]
  · rw [upd_ne _ _ c1]
theorem readDeed_L {m : Nat → Nat → Int32} {W : Nat → Int32} {p t L : Nat} (hL2 : L ≤ 24) (h : zc1 .ne (q_readDeed m W p t L).1 = true) : (q_readDeed m W p t L).2.1 (376 + 103 * t + 22) = Int32.ofNat (L + 1) ∧ L < 24 := by
  obtain ⟨K, n, -, -, -, -, g5, g6⟩ := readDeed_s (ne1 h)
  rw [g6, upd_ne _ _ (by omega), upd_at]
  exact ⟨rfl, by omega⟩
noncomputable def l_deeds (m : Nat → Nat → Int32) (t : Nat) : Nat → Nat → (Nat → Int32) → Nat → Nat → Int32 × (Nat → Int32) × Nat × Nat
  | 0, L, W, p, b => ((Int32.ofNat 0), (q_readDeed m W p t L).2.1, (q_readDeed m W p t L).2.2.1, (q_readDeed m W p t L).2.2.2)
  | n + 1, L, W, p, b => (bif zc1 .ne (q_readDeed m W p t L).1 then (bif zc1 .ne (q_passesSign m ((q_readDeed m W p t L).2.2.1) 44).1 then (l_deeds m t n ((L + 1)) ((q_readDeed m W p t L).2.1) ((q_passesSign m ((q_readDeed m W p t L).2.2.1) 44).2.1) ((q_passesSign m ((q_readDeed m W p t L).2.2.1) 44).2.2)) else ((Int32.ofNat 1), (q_readDeed m W p t L).2.1, (q_passesSign m ((q_readDeed m W p t L).2.2.1) 44).2.1, (q_passesSign m ((q_readDeed m W p t L).2.2.1) 44).2.2)) else ((Int32.ofNat 0), (q_readDeed m W p t L).2.1, (q_readDeed m W p t L).2.2.1, (q_readDeed m W p t L).2.2.2))
theorem w_deeds {σ : Nat → Nat × (Nat → Int32)} {yy : (Nat → Nat → Int64) × Bool × Nat × Nat} {m : Nat → Nat → Int32} {t : Nat} {d : Nat} (hd : 6 ≤ d + 1) (hG : PG m) (ht : t < 4) : ∀ (n : Nat) (x : Option Value) (L : Nat) (W : (Nat → Int32)) (p : Nat) (b : Nat), L + n = 24 → p ≤ pe m → W (376 + 103 * t + 22) = Int32.ofNat L → zEv σ (d + 1) 1853 48 [some (.ref 137), some (.int (Int32.ofNat t)), x] [] (zS1, zrow (TP m p b) 138 W, yy) (.inl (some (.int (l_deeds m t n L W p b).1))) (zS1, zrow (TP m ((l_deeds m t n L W p b).2.2.1) ((l_deeds m t n L W p b).2.2.2)) 138 ((l_deeds m t n L W p b).2.1), yy) := by
  intro n
  induction n with
  | zero =>
    intro x L W p b hk hp hL
    refine zeP rfl rfl ?_
    refine zeP rfl rfl ?_
    refine zeCF rfl rfl rfl rfl rfl rfl (c_readDeed (t := t) (L := L) (m := m) (W := W) (p := p) (b := b) hG hp ht hL (by omega)) (by omega) ?_
    dsimp only [Option.toList, List.cons_append, List.nil_append]
    refine zeF1 rfl rfl (readDeed_full (by omega)) ?_
    refine zeKn (c := 0) rfl rfl rfl ?_
    exact zeRe rfl rfl rfl rfl (by rfl) (by rfl)
  | succ n ih =>
    intro x L W p b hk hp hL
    refine zeP rfl rfl ?_
    refine zeP rfl rfl ?_
    refine zeCF rfl rfl rfl rfl rfl rfl (c_readDeed (t := t) (L := L) (m := m) (W := W) (p := p) (b := b) hG hp ht hL (by omega)) (by omega) ?_
    dsimp only [Option.toList, List.cons_append, List.nil_append]
    refine zeB1 rfl rfl (fun h1 => ?_) (fun h1 => ?_)
    · refine zeP rfl rfl ?_
      refine zeKn (c := 44) rfl rfl rfl ?_
      refine zeCF rfl rfl rfl rfl rfl rfl (c_passesSign (c := 44) (m := m) (W := (q_readDeed m W p t L).2.1) (p := (q_readDeed m W p t L).2.2.1) (b := (q_readDeed m W p t L).2.2.2) hG (readDeed_le hG hp).1) (by omega) ?_
      dsimp only [Option.toList, List.cons_append, List.nil_append]
      refine zeB1 rfl rfl (fun h2 => ?_) (fun h2 => ?_)
      · simp only [l_deeds, h1, h2, cond_true, cond_false]
        exact ih (x) ((L + 1)) ((q_readDeed m W p t L).2.1) ((q_passesSign m ((q_readDeed m W p t L).2.2.1) 44).2.1) ((q_passesSign m ((q_readDeed m W p t L).2.2.1) 44).2.2) (by omega) (passes_le hG (readDeed_le hG hp).1).1 (readDeed_L (by omega) h1).1
      · refine zeKn (c := 1) rfl rfl rfl ?_
        exact zeRe rfl rfl rfl rfl (by simp only [l_deeds, h1, h2, cond_true, cond_false] <;> rfl) (by simp only [l_deeds, h1, h2, cond_true, cond_false] <;> rfl)
    · refine zeKn (c := 0) rfl rfl rfl ?_
      exact zeRe rfl rfl rfl rfl (by simp only [l_deeds, h1, cond_true, cond_false] <;> rfl) (by simp only [l_deeds, h1, cond_true, cond_false] <;> rfl)
theorem clr_step {W : Nat → Int32} {t k : Nat} (hz : ∀ c, c < k → W (376 + 103 * t + c) = Int32.ofNat 0) : ∀ c, c < k + 1 → upd W (376 + 103 * t + k) (Int32.ofNat 0) (376 + 103 * t + c) = Int32.ofNat 0 := by
  intro c hc
  by_cases h : c = k
  · subst h; exact upd_at _ _ _
  · rw [upd_ne _ _ (by omega)]; exact hz c (by omega)
noncomputable def q_thread37 (m : Nat → Nat → Int32) (W : Nat → Int32) (p : Nat) (b : Nat) (t : Nat) : Int32 × (Nat → Int32) × Nat × Nat := (l_deeds m t 24 0 ((upd W 9 ((Int32.ofNat (t + 1))))) p b)
theorem p_thread37 {σ : Nat → Nat × (Nat → Int32)} {yy : (Nat → Nat → Int64) × Bool × Nat × Nat} {m : Nat → Nat → Int32} {W : Nat → Int32} {p b : Nat} {t : Nat} {x : Option Value} {d : Nat} (hd : 6 ≤ d + 1) (hG : PG m) (hp : p ≤ pe m) (ht : t < 4) (h9 : W 9 = Int32.ofNat t) (hz : W (376 + 103 * t + 22) = Int32.ofNat 0) : zEv σ (d + 1) 1853 37 [some (.ref 137), some (.int (Int32.ofNat t)), x] [] (zS1, zrow (TP m p b) 138 W, yy) (.inl (some (.int (q_thread37 m W p b t).1))) (zS1, zrow (TP m ((q_thread37 m W p b t).2.2.1) ((q_thread37 m W p b t).2.2.2)) 138 ((q_thread37 m W p b t).2.1), yy) := by
  refine zeP rfl rfl ?_
  refine zeGR rfl rfl zS137 rfl rfl ?_
  refine zeKn (c := 9) rfl rfl rfl ?_
  refine zeP rfl rfl ?_
  refine zeWL (k := 9) rfl (by omega) ?_
  rw [h9]
  refine zeKn (c := 1) rfl rfl rfl ?_
  refine zeAdd rfl ?_
  refine zeWS (k := 9) rfl (by omega) ?_
  simp only [q_thread37, cond_true, cond_false]
  exact w_deeds (t := t) (m := m) (by omega) hG ht 24 (x) (0) ((upd W 9 ((Int32.ofNat (t + 1))))) p b (by omega) hp (by rw [upd_ne _ _ (by omega)]; exact hz)
noncomputable def l_rclears (m : Nat → Nat → Int32) (p : Nat) (b : Nat) (t : Nat) : Nat → Nat → (Nat → Int32) → Int32 × (Nat → Int32) × Nat × Nat
  | 0, k, W => (q_thread37 m W p b t)
  | n + 1, k, W => (l_rclears m p b t n ((k + 1)) ((upd W ((376 + 103 * t + k)) ((Int32.ofNat 0)))))
theorem w_rclears {σ : Nat → Nat × (Nat → Int32)} {yy : (Nat → Nat → Int64) × Bool × Nat × Nat} {m : Nat → Nat → Int32} {p : Nat} {b : Nat} {t : Nat} {d : Nat} (hd : 6 ≤ d + 1) (hG : PG m) (hp : p ≤ pe m) (ht : t < 4) : ∀ (n : Nat) (k : Nat) (W : (Nat → Int32)), k + n = 103 → W 9 = Int32.ofNat t → (∀ c, c < k → W (376 + 103 * t + c) = Int32.ofNat 0) → zEv σ (d + 1) 1853 14 [some (.ref 137), some (.int (Int32.ofNat t)), some (.int (Int32.ofNat k))] [] (zS1, zrow (TP m p b) 138 W, yy) (.inl (some (.int (l_rclears m p b t n k W).1))) (zS1, zrow (TP m ((l_rclears m p b t n k W).2.2.1) ((l_rclears m p b t n k W).2.2.2)) 138 ((l_rclears m p b t n k W).2.1), yy) := by
  intro n
  induction n with
  | zero =>
    intro k W hk h9 hz
    refine zeP rfl rfl ?_
    refine zeKn (c := 103) rfl rfl rfl ?_
    refine zeT2 rfl rfl (zcge (by omega) (by omega) (by omega)) ?_
    simp only [l_rclears, cond_true, cond_false]
    exact p_thread37 (t := t) (x := some (.int (Int32.ofNat k))) (m := m) (W := W) (p := p) (b := b) (by omega) hG hp ht h9 (hz 22 (by omega))
  | succ n ih =>
    intro k W hk h9 hz
    refine zeP rfl rfl ?_
    refine zeKn (c := 103) rfl rfl rfl ?_
    refine zeF2 rfl rfl (zcge_f (by omega) (by omega) (by omega)) ?_
    refine zeP rfl rfl ?_
    refine zeGR rfl rfl zS137 rfl rfl ?_
    refine zeP rfl rfl ?_
    refine zeP rfl rfl ?_
    refine zeCF rfl rfl rfl rfl rfl rfl (c_at (m := TP m p b) (W := W) (t := t) (k := k) ) (by omega) ?_
    dsimp only [Option.toList, List.cons_append, List.nil_append]
    refine zeKn (c := 0) rfl rfl rfl ?_
    refine zeWS (k := (376 + 103 * t + k)) rfl (by omega) ?_
    refine zeInc rfl rfl ?_
    refine zeP rfl rfl ?_
    simp only [l_rclears, cond_true, cond_false]
    exact ih ((k + 1)) ((upd W ((376 + 103 * t + k)) ((Int32.ofNat 0)))) (by omega) (by rw [upd_ne _ _ (by omega)]; exact h9) (clr_step hz)
noncomputable def q_readThread (m : Nat → Nat → Int32) (W : Nat → Int32) (p : Nat) (b : Nat) : Int32 × (Nat → Int32) × Nat × Nat := (bif zc2 .ne (Int32.ofNat (nv W 9)) (Int32.ofNat 4) then (l_rclears m p b ((nv W 9)) 103 0 W) else ((Int32.ofNat 0), W, p, b))
theorem p_readThread {σ : Nat → Nat × (Nat → Int32)} {yy : (Nat → Nat → Int64) × Bool × Nat × Nat} {m : Nat → Nat → Int32} {W : Nat → Int32} {p b : Nat} {d : Nat} (hd : 6 ≤ d + 1) (hG : PG m) (hp : p ≤ pe m) (h9 : W 9 = Int32.ofNat (nv W 9) ∧ nv W 9 ≤ 4) : zEv σ (d + 1) 1853 0 [some (.ref 137), none, none] [] (zS1, zrow (TP m p b) 138 W, yy) (.inl (some (.int (q_readThread m W p b).1))) (zS1, zrow (TP m ((q_readThread m W p b).2.2.1) ((q_readThread m W p b).2.2.2)) 138 ((q_readThread m W p b).2.1), yy) := by
  refine zeP rfl rfl ?_
  refine zeCF rfl rfl rfl rfl rfl rfl (c_threads (m := TP m p b) (W := W)  ) (by omega) ?_
  dsimp only [Option.toList, List.cons_append, List.nil_append]
  rw [(show q_threads W = Int32.ofNat (nv W 9) from h9.1)]
  refine zeP rfl rfl ?_
  refine zeP rfl rfl ?_
  refine zeKn (c := 4) rfl rfl rfl ?_
  refine zeB2 rfl rfl (fun h1 => ?_) (fun h1 => ?_)
  · refine zeKn (c := 0) rfl rfl rfl ?_
    refine zeP rfl rfl ?_
    simp only [q_readThread, h1, cond_true, cond_false]
    exact w_rclears (t := (nv W 9)) (m := m) (p := p) (b := b) (by omega) hG hp (by have := tne_t h1; omega) 103 (0) W (by omega) h9.1 (fun c hc => absurd hc (Nat.not_lt_zero _))
  · refine zeKn (c := 0) rfl rfl rfl ?_
    exact zeRe rfl rfl rfl rfl (by simp only [q_readThread, h1, cond_true, cond_false] <;> rfl) (by simp only [q_readThread, h1, cond_true, cond_false] <;> rfl)
theorem c_readThread {σ : Nat → Nat × (Nat → Int32)} {yy : (Nat → Nat → Int64) × Bool × Nat × Nat} {m : Nat → Nat → Int32} {W : Nat → Int32} {p b : Nat} (hG : PG m) (hp : p ≤ pe m) (h9 : W 9 = Int32.ofNat (nv W 9) ∧ nv W 9 ≤ 4) : zF σ 6 1853 [.ref 137] (zS1, zrow (TP m p b) 138 W, yy) (.inl (some (.int (q_readThread m W p b).1))) (zS1, zrow (TP m ((q_readThread m W p b).2.2.1) ((q_readThread m W p b).2.2.2)) 138 ((q_readThread m W p b).2.1), yy) := by
  intro d hd
  obtain ⟨d, rfl⟩ : ∃ k, d = k + 1 := ⟨d - 1, by omega⟩
  exact p_readThread hd hG hp h9
end
section
noncomputable def q_readWordLine (m : Nat → Nat → Int32) (W : Nat → Int32) (p : Nat) : Int32 × (Nat → Int32) × Nat × Nat := (bif zc2 .ne (q_number m p ((Int32.ofNat 0)) ((Int32.ofNat 31))).1 (-1) then (bif zc2 .ne (q_number m ((q_number m p ((Int32.ofNat 0)) ((Int32.ofNat 31))).2.1) ((Int32.ofNat 0)) ((Int32.ofNat 9999))).1 (-1) then ((Int32.ofNat 1), (upd ((upd W ((32 + (((q_number m p ((Int32.ofNat 0)) ((Int32.ofNat 31))).1).toNatClampNeg))) ((q_number m ((q_number m p ((Int32.ofNat 0)) ((Int32.ofNat 31))).2.1) ((Int32.ofNat 0)) ((Int32.ofNat 9999))).1))) ((64 + (((q_number m p ((Int32.ofNat 0)) ((Int32.ofNat 31))).1).toNatClampNeg))) ((q_number m ((q_number m p ((Int32.ofNat 0)) ((Int32.ofNat 31))).2.1) ((Int32.ofNat 0)) ((Int32.ofNat 9999))).1)), (q_number m ((q_number m p ((Int32.ofNat 0)) ((Int32.ofNat 31))).2.1) ((Int32.ofNat 0)) ((Int32.ofNat 9999))).2.1, (q_number m ((q_number m p ((Int32.ofNat 0)) ((Int32.ofNat 31))).2.1) ((Int32.ofNat 0)) ((Int32.ofNat 9999))).2.2) else ((Int32.ofNat 0), W, (q_number m ((q_number m p ((Int32.ofNat 0)) ((Int32.ofNat 31))).2.1) ((Int32.ofNat 0)) ((Int32.ofNat 9999))).2.1, (q_number m ((q_number m p ((Int32.ofNat 0)) ((Int32.ofNat 31))).2.1) ((Int32.ofNat 0)) ((Int32.ofNat 9999))).2.2)) else ((Int32.ofNat 0), W, (q_number m p ((Int32.ofNat 0)) ((Int32.ofNat 31))).2.1, (q_number m p ((Int32.ofNat 0)) ((Int32.ofNat 31))).2.2))
theorem p_readWordLine {σ : Nat → Nat × (Nat → Int32)} {yy : (Nat → Nat → Int64) × Bool × Nat × Nat} {m : Nat → Nat → Int32} {W : Nat → Int32} {p b : Nat} {d : Nat} (hd : 4 ≤ d + 1) (hG : PG m) (hp : p ≤ pe m) : zEv σ (d + 1) 1854 0 [some (.ref 137), none, none] [] (zS1, zrow (TP m p b) 138 W, yy) (.inl (some (.int (q_readWordLine m W p).1))) (zS1, zrow (TP m ((q_readWordLine m W p).2.2.1) ((q_readWordLine m W p).2.2.2)) 138 ((q_readWordLine m W p).2.1), yy) := by
  refine zeP rfl rfl ?_
  refine zeKn (c := 0) rfl rfl rfl ?_
  refine zeKn (c := 31) rfl rfl rfl ?_
  refine zeCF rfl rfl rfl rfl rfl rfl (c_number (lo := (Int32.ofNat 0)) (hi := (Int32.ofNat 31)) (m := m) (W := W) (p := p) (b := b) hG hp) (by omega) ?_
  dsimp only [Option.toList, List.cons_append, List.nil_append]
  refine zeP rfl rfl ?_
  refine zeP rfl rfl ?_
  refine zeK (v := -1) rfl rfl rfl ?_
  refine zeB2 rfl rfl (fun h1 => ?_) (fun h1 => ?_)
  · refine zeP rfl rfl ?_
    refine zeKn (c := 0) rfl rfl rfl ?_
    refine zeKn (c := 9999) rfl rfl rfl ?_
    refine zeCF rfl rfl rfl rfl rfl rfl (c_number (lo := (Int32.ofNat 0)) (hi := (Int32.ofNat 9999)) (m := m) (W := W) (p := (q_number m p ((Int32.ofNat 0)) ((Int32.ofNat 31))).2.1) (b := (q_number m p ((Int32.ofNat 0)) ((Int32.ofNat 31))).2.2) hG (number_le hG hp).2.1) (by omega) ?_
    dsimp only [Option.toList, List.cons_append, List.nil_append]
    refine zeP rfl rfl ?_
    refine zeP rfl rfl ?_
    refine zeK (v := -1) rfl rfl rfl ?_
    refine zeB2 rfl rfl (fun h2 => ?_) (fun h2 => ?_)
    · have hw : (q_number m p ((Int32.ofNat 0)) ((Int32.ofNat 31))).1 = Int32.ofNat ((q_number m p ((Int32.ofNat 0)) ((Int32.ofNat 31))).1).toNatClampNeg ∧ ((q_number m p ((Int32.ofNat 0)) ((Int32.ofNat 31))).1).toNatClampNeg ≤ 31 := ⟨(number_k (by omega) (by omega) (zne_t h1)).1, (number_k (by omega) (by omega) (zne_t h1)).2.1⟩
      refine zeP rfl rfl ?_
      refine zeGR rfl rfl zS137 rfl rfl ?_
      refine zeKn (c := 32) rfl rfl rfl ?_
      refine zeKn (c := ((q_number m p ((Int32.ofNat 0)) ((Int32.ofNat 31))).1).toNatClampNeg) rfl rfl hw.1 ?_
      refine zeAdd rfl ?_
      refine zeP rfl rfl ?_
      refine zeWS (k := (32 + (((q_number m p ((Int32.ofNat 0)) ((Int32.ofNat 31))).1).toNatClampNeg))) rfl (by omega) ?_
      refine zeP rfl rfl ?_
      refine zeGR rfl rfl zS137 rfl rfl ?_
      refine zeKn (c := 64) rfl rfl rfl ?_
      refine zeKn (c := ((q_number m p ((Int32.ofNat 0)) ((Int32.ofNat 31))).1).toNatClampNeg) rfl rfl hw.1 ?_
      refine zeAdd rfl ?_
      refine zeP rfl rfl ?_
      refine zeWS (k := (64 + (((q_number m p ((Int32.ofNat 0)) ((Int32.ofNat 31))).1).toNatClampNeg))) rfl (by omega) ?_
      refine zeKn (c := 1) rfl rfl rfl ?_
      exact zeRe rfl rfl rfl rfl (by simp only [q_readWordLine, h1, h2, cond_true, cond_false] <;> rfl) (by simp only [q_readWordLine, h1, h2, cond_true, cond_false] <;> rfl)
    · refine zeKn (c := 0) rfl rfl rfl ?_
      exact zeRe rfl rfl rfl rfl (by simp only [q_readWordLine, h1, h2, cond_true, cond_false] <;> rfl) (by simp only [q_readWordLine, h1, h2, cond_true, cond_false] <;> rfl)
  · refine zeK (v := -1) rfl rfl rfl ?_
    refine zeP rfl rfl ?_
    refine zeP rfl rfl ?_
    refine zeP rfl rfl ?_
    refine zeK (v := -1) rfl rfl rfl ?_
    refine zeF2 rfl rfl (show zc2 .ne (-1) (-1) = false by decide) ?_
    refine zeKn (c := 0) rfl rfl rfl ?_
    exact zeRe rfl rfl rfl rfl (by simp only [q_readWordLine, h1, cond_true, cond_false] <;> rfl) (by simp only [q_readWordLine, h1, cond_true, cond_false] <;> rfl)
theorem c_readWordLine {σ : Nat → Nat × (Nat → Int32)} {yy : (Nat → Nat → Int64) × Bool × Nat × Nat} {m : Nat → Nat → Int32} {W : Nat → Int32} {p b : Nat} (hG : PG m) (hp : p ≤ pe m) : zF σ 4 1854 [.ref 137] (zS1, zrow (TP m p b) 138 W, yy) (.inl (some (.int (q_readWordLine m W p).1))) (zS1, zrow (TP m ((q_readWordLine m W p).2.2.1) ((q_readWordLine m W p).2.2.2)) 138 ((q_readWordLine m W p).2.1), yy) := by
  intro d hd
  obtain ⟨d, rfl⟩ : ∃ k, d = k + 1 := ⟨d - 1, by omega⟩
  exact p_readWordLine hd hG hp
noncomputable def l_readLock (W : Nat → Int32) (l : Int32) (w : Int32) : Nat → Int32 → Nat → Int32 × (Nat → Int32)
  | 0, is, o => (bif zc1 .eq is then (is, W) else (is, (upd W ((16 + (l.toNatClampNeg))) w)))
  | n + 1, is, o => (bif zc1 .eq is then (is, W) else (bif zc2 .eq (Int32.ofNat o) l then (l_readLock W l w n ((Int32.ofNat 1)) ((o + 1))) else (bif zc2 .eq (W ((16 + o))) w then (l_readLock W l w n ((Int32.ofNat 0)) ((o + 1))) else (l_readLock W l w n ((Int32.ofNat 1)) ((o + 1))))))
theorem w_readLock {σ : Nat → Nat × (Nat → Int32)} {yy : (Nat → Nat → Int64) × Bool × Nat × Nat} {m : Nat → Nat → Int32} {W : (Nat → Int32)} {p : Nat} {b : Nat} {l : Int32} {w : Int32} {d : Nat} (hd : 1 ≤ d + 1) (hl : l = Int32.ofNat l.toNatClampNeg ∧ l.toNatClampNeg ≤ 3) : ∀ (n : Nat) (is : Int32) (o : Nat), o + n = 4 → is = 0 ∨ is = 1 → zEv σ (d + 1) 1855 51 [some (.ref 137), some (.int l), some (.int w), some (.int is), some (.int (Int32.ofNat o))] [] (zS1, zrow (TP m p b) 138 W, yy) (.inl (some (.int (l_readLock W l w n is o).1))) (zS1, zrow (TP m p b) 138 ((l_readLock W l w n is o).2), yy) := by
  intro n
  induction n with
  | zero =>
    intro is o hk his
    refine zeP rfl rfl ?_
    refine zeKn (c := 4) rfl rfl rfl ?_
    refine zeT2 rfl rfl (zcge (by omega) (by omega) (by omega)) ?_
    refine zeP rfl rfl ?_
    refine zeB1 rfl rfl (fun h1 => ?_) (fun h1 => ?_)
    · refine zeP rfl rfl ?_
      exact zeRe rfl rfl rfl (zretB rfl rfl his) (by simp only [l_readLock, h1, cond_true, cond_false] <;> rfl) (by simp only [l_readLock, h1, cond_true, cond_false] <;> rfl)
    · have hl3 : l = Int32.ofNat l.toNatClampNeg ∧ l.toNatClampNeg ≤ 3 := hl
      refine zeP rfl rfl ?_
      refine zeGR rfl rfl zS137 rfl rfl ?_
      refine zeKn (c := 16) rfl rfl rfl ?_
      refine zeKn (c := l.toNatClampNeg) rfl rfl hl3.1 ?_
      refine zeAdd rfl ?_
      refine zeP rfl rfl ?_
      refine zeWS (k := (16 + (l.toNatClampNeg))) rfl (by omega) ?_
      refine zeP rfl rfl ?_
      exact zeRe rfl rfl rfl (zretB rfl rfl his) (by simp only [l_readLock, h1, cond_true, cond_false] <;> rfl) (by simp only [l_readLock, h1, cond_true, cond_false] <;> rfl)
  | succ n ih =>
    intro is o hk his
    refine zeP rfl rfl ?_
    refine zeKn (c := 4) rfl rfl rfl ?_
    refine zeF2 rfl rfl (zcge_f (by omega) (by omega) (by omega)) ?_
    refine zeP rfl rfl ?_
    refine zeB1 rfl rfl (fun h1 => ?_) (fun h1 => ?_)
    · refine zeP rfl rfl ?_
      refine zeT1 rfl rfl h1 ?_
      refine zeP rfl rfl ?_
      exact zeRe rfl rfl rfl (zretB rfl rfl his) (by simp only [l_readLock, h1, cond_true, cond_false] <;> rfl) (by simp only [l_readLock, h1, cond_true, cond_false] <;> rfl)
    · refine zeP rfl rfl ?_
      refine zeP rfl rfl ?_
      refine zeB2 rfl rfl (fun h2 => ?_) (fun h2 => ?_)
      · refine zeKn (c := 1) rfl rfl rfl ?_
        refine zeP rfl rfl ?_
        refine zeP rfl rfl ?_
        refine zeInc rfl rfl ?_
        refine zeP rfl rfl ?_
        simp only [l_readLock, h1, h2, cond_true, cond_false]
        exact ih ((Int32.ofNat 1)) ((o + 1))  (by omega) (by first | exact Or.inr rfl | exact Or.inl rfl)
      · refine zeP rfl rfl ?_
        refine zeGR rfl rfl zS137 rfl rfl ?_
        refine zeKn (c := 16) rfl rfl rfl ?_
        refine zeP rfl rfl ?_
        refine zeAdd rfl ?_
        refine zeWL (k := (16 + o)) rfl (by omega) ?_
        refine zeP rfl rfl ?_
        refine zeB2 rfl rfl (fun h3 => ?_) (fun h3 => ?_)
        · refine zeKn (c := 0) rfl rfl rfl ?_
          refine zeP rfl rfl ?_
          refine zeInc rfl rfl ?_
          refine zeP rfl rfl ?_
          simp only [l_readLock, h1, h2, h3, cond_true, cond_false]
          exact ih ((Int32.ofNat 0)) ((o + 1))  (by omega) (by first | exact Or.inr rfl | exact Or.inl rfl)
        · refine zeKn (c := 1) rfl rfl rfl ?_
          refine zeP rfl rfl ?_
          refine zeP rfl rfl ?_
          refine zeInc rfl rfl ?_
          refine zeP rfl rfl ?_
          simp only [l_readLock, h1, h2, h3, cond_true, cond_false]
          exact ih ((Int32.ofNat 1)) ((o + 1))  (by omega) (by first | exact Or.inr rfl | exact Or.inl rfl)
noncomputable def q_readLock (m : Nat → Nat → Int32) (W : Nat → Int32) (p : Nat) : Int32 × (Nat → Int32) × Nat × Nat := (bif zc2 .ne (q_number m p ((Int32.ofNat 0)) ((Int32.ofNat 3))).1 (-1) then (bif zc1 .ne (q_isWord m ((q_letters m ((q_number m p ((Int32.ofNat 0)) ((Int32.ofNat 3))).2.1)).1) ((q_letters m ((q_number m p ((Int32.ofNat 0)) ((Int32.ofNat 3))).2.1)).2) 13) then (bif zc2 .eq (q_number m ((q_letters m ((q_number m p ((Int32.ofNat 0)) ((Int32.ofNat 3))).2.1)).1) ((Int32.ofNat 0)) ((Int32.ofNat 31))).1 (-1) then ((l_readLock W ((q_number m p ((Int32.ofNat 0)) ((Int32.ofNat 3))).1) ((q_number m ((q_letters m ((q_number m p ((Int32.ofNat 0)) ((Int32.ofNat 3))).2.1)).1) ((Int32.ofNat 0)) ((Int32.ofNat 31))).1) 4 ((Int32.ofNat 0)) 0).1, (l_readLock W ((q_number m p ((Int32.ofNat 0)) ((Int32.ofNat 3))).1) ((q_number m ((q_letters m ((q_number m p ((Int32.ofNat 0)) ((Int32.ofNat 3))).2.1)).1) ((Int32.ofNat 0)) ((Int32.ofNat 31))).1) 4 ((Int32.ofNat 0)) 0).2, (q_number m ((q_letters m ((q_number m p ((Int32.ofNat 0)) ((Int32.ofNat 3))).2.1)).1) ((Int32.ofNat 0)) ((Int32.ofNat 31))).2.1, (q_number m ((q_letters m ((q_number m p ((Int32.ofNat 0)) ((Int32.ofNat 3))).2.1)).1) ((Int32.ofNat 0)) ((Int32.ofNat 31))).2.2) else ((l_readLock W ((q_number m p ((Int32.ofNat 0)) ((Int32.ofNat 3))).1) ((q_number m ((q_letters m ((q_number m p ((Int32.ofNat 0)) ((Int32.ofNat 3))).2.1)).1) ((Int32.ofNat 0)) ((Int32.ofNat 31))).1) 4 ((Int32.ofNat 1)) 0).1, (l_readLock W ((q_number m p ((Int32.ofNat 0)) ((Int32.ofNat 3))).1) ((q_number m ((q_letters m ((q_number m p ((Int32.ofNat 0)) ((Int32.ofNat 3))).2.1)).1) ((Int32.ofNat 0)) ((Int32.ofNat 31))).1) 4 ((Int32.ofNat 1)) 0).2, (q_number m ((q_letters m ((q_number m p ((Int32.ofNat 0)) ((Int32.ofNat 3))).2.1)).1) ((Int32.ofNat 0)) ((Int32.ofNat 31))).2.1, (q_number m ((q_letters m ((q_number m p ((Int32.ofNat 0)) ((Int32.ofNat 3))).2.1)).1) ((Int32.ofNat 0)) ((Int32.ofNat 31))).2.2)) else ((Int32.ofNat 0), W, (q_letters m ((q_number m p ((Int32.ofNat 0)) ((Int32.ofNat 3))).2.1)).1, (q_letters m ((q_number m p ((Int32.ofNat 0)) ((Int32.ofNat 3))).2.1)).2)) else ((Int32.ofNat 0), W, (q_number m p ((Int32.ofNat 0)) ((Int32.ofNat 3))).2.1, (q_number m p ((Int32.ofNat 0)) ((Int32.ofNat 3))).2.2))
theorem p_readLock {σ : Nat → Nat × (Nat → Int32)} {yy : (Nat → Nat → Int64) × Bool × Nat × Nat} {m : Nat → Nat → Int32} {W : Nat → Int32} {p b : Nat} {d : Nat} (hd : 4 ≤ d + 1) (hG : PG m) (hp : p ≤ pe m) : zEv σ (d + 1) 1855 0 [some (.ref 137), none, none, none, none] [] (zS1, zrow (TP m p b) 138 W, yy) (.inl (some (.int (q_readLock m W p).1))) (zS1, zrow (TP m ((q_readLock m W p).2.2.1) ((q_readLock m W p).2.2.2)) 138 ((q_readLock m W p).2.1), yy) := by
  refine zeP rfl rfl ?_
  refine zeKn (c := 0) rfl rfl rfl ?_
  refine zeKn (c := 3) rfl rfl rfl ?_
  refine zeCF rfl rfl rfl rfl rfl rfl (c_number (lo := (Int32.ofNat 0)) (hi := (Int32.ofNat 3)) (m := m) (W := W) (p := p) (b := b) hG hp) (by omega) ?_
  dsimp only [Option.toList, List.cons_append, List.nil_append]
  refine zeP rfl rfl ?_
  refine zeP rfl rfl ?_
  refine zeK (v := -1) rfl rfl rfl ?_
  refine zeB2 rfl rfl (fun h1 => ?_) (fun h1 => ?_)
  · refine zeP rfl rfl ?_
    refine zeCF rfl rfl rfl rfl rfl rfl (c_letters  (m := m) (W := W) (p := (q_number m p ((Int32.ofNat 0)) ((Int32.ofNat 3))).2.1) (b := (q_number m p ((Int32.ofNat 0)) ((Int32.ofNat 3))).2.2) hG (number_le hG hp).2.1) (by omega) ?_
    dsimp only [Option.toList, List.cons_append, List.nil_append]
    refine zeP rfl rfl ?_
    refine zeS rfl rfl rfl ?_
    refine zeCF rfl rfl rfl rfl rfl rfl (c_isWord (s := 13) (m := m) (W := W) (p := (q_letters m ((q_number m p ((Int32.ofNat 0)) ((Int32.ofNat 3))).2.1)).1) (b := (q_letters m ((q_number m p ((Int32.ofNat 0)) ((Int32.ofNat 3))).2.1)).2) hG (by decide) (letters_le hG (number_le (lo := Int32.ofNat 0) (hi := Int32.ofNat 3) hG hp).2.1).2 (by have := (letters_le hG (number_le (lo := Int32.ofNat 0) (hi := Int32.ofNat 3) hG hp).2.1).1; have := hG.2; omega)) (by omega) ?_
    dsimp only [Option.toList, List.cons_append, List.nil_append]
    refine zeB1 rfl rfl (fun h2 => ?_) (fun h2 => ?_)
    · refine zeP rfl rfl ?_
      refine zeKn (c := 0) rfl rfl rfl ?_
      refine zeKn (c := 31) rfl rfl rfl ?_
      refine zeCF rfl rfl rfl rfl rfl rfl (c_number (lo := (Int32.ofNat 0)) (hi := (Int32.ofNat 31)) (m := m) (W := W) (p := (q_letters m ((q_number m p ((Int32.ofNat 0)) ((Int32.ofNat 3))).2.1)).1) (b := (q_letters m ((q_number m p ((Int32.ofNat 0)) ((Int32.ofNat 3))).2.1)).2) hG (letters_le hG (number_le (lo := Int32.ofNat 0) (hi := Int32.ofNat 3) hG hp).2.1).1) (by omega) ?_
      dsimp only [Option.toList, List.cons_append, List.nil_append]
      refine zeP rfl rfl ?_
      refine zeP rfl rfl ?_
      refine zeK (v := -1) rfl rfl rfl ?_
      refine zeB2 rfl rfl (fun h3 => ?_) (fun h3 => ?_)
      · refine zeKn (c := 0) rfl rfl rfl ?_
        refine zeP rfl rfl ?_
        refine zeKn (c := 0) rfl rfl rfl ?_
        refine zeP rfl rfl ?_
        simp only [q_readLock, h1, h2, h3, cond_true, cond_false]
        exact w_readLock (l := (q_number m p ((Int32.ofNat 0)) ((Int32.ofNat 3))).1) (w := (q_number m ((q_letters m ((q_number m p ((Int32.ofNat 0)) ((Int32.ofNat 3))).2.1)).1) ((Int32.ofNat 0)) ((Int32.ofNat 31))).1) (m := m) (W := W) (p := (q_number m ((q_letters m ((q_number m p ((Int32.ofNat 0)) ((Int32.ofNat 3))).2.1)).1) ((Int32.ofNat 0)) ((Int32.ofNat 31))).2.1) (b := (q_number m ((q_letters m ((q_number m p ((Int32.ofNat 0)) ((Int32.ofNat 3))).2.1)).1) ((Int32.ofNat 0)) ((Int32.ofNat 31))).2.2) (by omega) ⟨(number_k (by omega) (by omega) (zne_t h1)).1, (number_k (by omega) (by omega) (zne_t h1)).2.1⟩ 4 ((Int32.ofNat 0)) (0)  (by omega) (by first | exact Or.inr rfl | exact Or.inl rfl)
      · refine zeKn (c := 1) rfl rfl rfl ?_
        refine zeP rfl rfl ?_
        refine zeP rfl rfl ?_
        refine zeKn (c := 0) rfl rfl rfl ?_
        refine zeP rfl rfl ?_
        simp only [q_readLock, h1, h2, h3, cond_true, cond_false]
        exact w_readLock (l := (q_number m p ((Int32.ofNat 0)) ((Int32.ofNat 3))).1) (w := (q_number m ((q_letters m ((q_number m p ((Int32.ofNat 0)) ((Int32.ofNat 3))).2.1)).1) ((Int32.ofNat 0)) ((Int32.ofNat 31))).1) (m := m) (W := W) (p := (q_number m ((q_letters m ((q_number m p ((Int32.ofNat 0)) ((Int32.ofNat 3))).2.1)).1) ((Int32.ofNat 0)) ((Int32.ofNat 31))).2.1) (b := (q_number m ((q_letters m ((q_number m p ((Int32.ofNat 0)) ((Int32.ofNat 3))).2.1)).1) ((Int32.ofNat 0)) ((Int32.ofNat 31))).2.2) (by omega) ⟨(number_k (by omega) (by omega) (zne_t h1)).1, (number_k (by omega) (by omega) (zne_t h1)).2.1⟩ 4 ((Int32.ofNat 1)) (0)  (by omega) (by first | exact Or.inr rfl | exact Or.inl rfl)
    · refine zeKn (c := 0) rfl rfl rfl ?_
      exact zeRe rfl rfl rfl rfl (by simp only [q_readLock, h1, h2, cond_true, cond_false] <;> rfl) (by simp only [q_readLock, h1, h2, cond_true, cond_false] <;> rfl)
  · refine zeKn (c := 0) rfl rfl rfl ?_
    exact zeRe rfl rfl rfl rfl (by simp only [q_readLock, h1, cond_true, cond_false] <;> rfl) (by simp only [q_readLock, h1, cond_true, cond_false] <;> rfl)
theorem c_readLock {σ : Nat → Nat × (Nat → Int32)} {yy : (Nat → Nat → Int64) × Bool × Nat × Nat} {m : Nat → Nat → Int32} {W : Nat → Int32} {p b : Nat} (hG : PG m) (hp : p ≤ pe m) : zF σ 4 1855 [.ref 137] (zS1, zrow (TP m p b) 138 W, yy) (.inl (some (.int (q_readLock m W p).1))) (zS1, zrow (TP m ((q_readLock m W p).2.2.1) ((q_readLock m W p).2.2.2)) 138 ((q_readLock m W p).2.1), yy) := by
  intro d hd
  obtain ⟨d, rfl⟩ : ∃ k, d = k + 1 := ⟨d - 1, by omega⟩
  exact p_readLock hd hG hp
noncomputable def l_readTrust (v : Int32) : Nat → Nat → (Nat → Int32) → Int32 × (Nat → Int32)
  | 0, l, W => (bif zc2 .eq v (-1) then ((Int32.ofNat 0), W) else ((Int32.ofNat 1), W))
  | n + 1, l, W => (bif zc2 .eq v (-1) then ((Int32.ofNat 0), W) else (l_readTrust v n ((l + 1)) ((upd W ((20 + l)) v))))
theorem w_readTrust {σ : Nat → Nat × (Nat → Int32)} {yy : (Nat → Nat → Int64) × Bool × Nat × Nat} {m : Nat → Nat → Int32} {p : Nat} {b : Nat} {v : Int32} {d : Nat} (hd : 1 ≤ d + 1) : ∀ (n : Nat) (l : Nat) (W : (Nat → Int32)), l + n = 4 → zEv σ (d + 1) 1856 10 [some (.ref 137), some (.int v), some (.int (Int32.ofNat l))] [] (zS1, zrow (TP m p b) 138 W, yy) (.inl (some (.int (l_readTrust v n l W).1))) (zS1, zrow (TP m p b) 138 ((l_readTrust v n l W).2), yy) := by
  intro n
  induction n with
  | zero =>
    intro l W hk
    refine zeP rfl rfl ?_
    refine zeKn (c := 4) rfl rfl rfl ?_
    refine zeT2 rfl rfl (zcge (by omega) (by omega) (by omega)) ?_
    refine zeP rfl rfl ?_
    refine zeK (v := -1) rfl rfl rfl ?_
    refine zeB2 rfl rfl (fun h1 => ?_) (fun h1 => ?_)
    · refine zeKn (c := 0) rfl rfl rfl ?_
      exact zeRe rfl rfl rfl rfl (by simp only [l_readTrust, h1, cond_true, cond_false] <;> rfl) (by simp only [l_readTrust, h1, cond_true, cond_false] <;> rfl)
    · refine zeKn (c := 1) rfl rfl rfl ?_
      refine zeP rfl rfl ?_
      exact zeRe rfl rfl rfl rfl (by simp only [l_readTrust, h1, cond_true, cond_false] <;> rfl) (by simp only [l_readTrust, h1, cond_true, cond_false] <;> rfl)
  | succ n ih =>
    intro l W hk
    refine zeP rfl rfl ?_
    refine zeKn (c := 4) rfl rfl rfl ?_
    refine zeF2 rfl rfl (zcge_f (by omega) (by omega) (by omega)) ?_
    refine zeP rfl rfl ?_
    refine zeK (v := -1) rfl rfl rfl ?_
    refine zeB2 rfl rfl (fun h1 => ?_) (fun h1 => ?_)
    · refine zeP rfl rfl ?_
      refine zeK (v := -1) rfl rfl rfl ?_
      refine zeT2 rfl rfl h1 ?_
      refine zeKn (c := 0) rfl rfl rfl ?_
      exact zeRe rfl rfl rfl rfl (by simp only [l_readTrust, h1, cond_true, cond_false] <;> rfl) (by simp only [l_readTrust, h1, cond_true, cond_false] <;> rfl)
    · refine zeP rfl rfl ?_
      refine zeGR rfl rfl zS137 rfl rfl ?_
      refine zeKn (c := 20) rfl rfl rfl ?_
      refine zeP rfl rfl ?_
      refine zeAdd rfl ?_
      refine zeP rfl rfl ?_
      refine zeWS (k := (20 + l)) rfl (by omega) ?_
      refine zeInc rfl rfl ?_
      refine zeP rfl rfl ?_
      simp only [l_readTrust, h1, cond_true, cond_false]
      exact ih ((l + 1)) ((upd W ((20 + l)) v)) (by omega) 
noncomputable def q_readTrust (m : Nat → Nat → Int32) (W : Nat → Int32) (p : Nat) : Int32 × (Nat → Int32) × Nat × Nat := ((l_readTrust ((q_number m p ((Int32.ofNat 0)) ((Int32.ofNat 15))).1) 4 0 W).1, (l_readTrust ((q_number m p ((Int32.ofNat 0)) ((Int32.ofNat 15))).1) 4 0 W).2, (q_number m p ((Int32.ofNat 0)) ((Int32.ofNat 15))).2.1, (q_number m p ((Int32.ofNat 0)) ((Int32.ofNat 15))).2.2)
theorem p_readTrust {σ : Nat → Nat × (Nat → Int32)} {yy : (Nat → Nat → Int64) × Bool × Nat × Nat} {m : Nat → Nat → Int32} {W : Nat → Int32} {p b : Nat} {d : Nat} (hd : 4 ≤ d + 1) (hG : PG m) (hp : p ≤ pe m) : zEv σ (d + 1) 1856 0 [some (.ref 137), none, none] [] (zS1, zrow (TP m p b) 138 W, yy) (.inl (some (.int (q_readTrust m W p).1))) (zS1, zrow (TP m ((q_readTrust m W p).2.2.1) ((q_readTrust m W p).2.2.2)) 138 ((q_readTrust m W p).2.1), yy) := by
  refine zeP rfl rfl ?_
  refine zeKn (c := 0) rfl rfl rfl ?_
  refine zeKn (c := 15) rfl rfl rfl ?_
  refine zeCF rfl rfl rfl rfl rfl rfl (c_number (lo := (Int32.ofNat 0)) (hi := (Int32.ofNat 15)) (m := m) (W := W) (p := p) (b := b) hG hp) (by omega) ?_
  dsimp only [Option.toList, List.cons_append, List.nil_append]
  refine zeP rfl rfl ?_
  refine zeKn (c := 0) rfl rfl rfl ?_
  refine zeP rfl rfl ?_
  simp only [q_readTrust, cond_true, cond_false]
  exact w_readTrust (v := (q_number m p ((Int32.ofNat 0)) ((Int32.ofNat 15))).1) (m := m) (p := (q_number m p ((Int32.ofNat 0)) ((Int32.ofNat 15))).2.1) (b := (q_number m p ((Int32.ofNat 0)) ((Int32.ofNat 15))).2.2) (by omega)  4 (0) W (by omega) 
theorem c_readTrust {σ : Nat → Nat × (Nat → Int32)} {yy : (Nat → Nat → Int64) × Bool × Nat × Nat} {m : Nat → Nat → Int32} {W : Nat → Int32} {p b : Nat} (hG : PG m) (hp : p ≤ pe m) : zF σ 4 1856 [.ref 137] (zS1, zrow (TP m p b) 138 W, yy) (.inl (some (.int (q_readTrust m W p).1))) (zS1, zrow (TP m ((q_readTrust m W p).2.2.1) ((q_readTrust m W p).2.2.2)) 138 ((q_readTrust m W p).2.1), yy) := by
  intro d hd
  obtain ⟨d, rfl⟩ : ∃ k, d = k + 1 := ⟨d - 1, by omega⟩
  exact p_readTrust hd hG hp
end
section
theorem deeds_RB {m : Nat → Nat → Int32} {t : Nat} (hG : PG m) : ∀ (n L : Nat) (W : Nat → Int32) (p b : Nat), p ≤ pe m → RB m (l_deeds m t n L W p b) := by
  intro n
  induction n with
  | zero =>
    intro L W p b hp
    have h := readDeed_le (W := W) (t := t) (L := L) hG hp
    exact RB.mk h.1 h.2.1 (Or.inl rfl)
  | succ n ih =>
    intro L W p b hp
    have h := readDeed_le (W := W) (t := t) (L := L) hG hp
    have h2 := passes_le (c := 44) hG h.1
    unfold l_deeds
    exact RB.bif (RB.bif (ih _ _ _ _ h2.1) (RB.mk h2.1 h2.2 (Or.inr rfl))) (RB.mk h.1 h.2.1 (Or.inl rfl))
theorem rclears_RB {m : Nat → Nat → Int32} {p b t : Nat} (hG : PG m) (hp : p ≤ pe m) : ∀ (n k : Nat) (W : Nat → Int32), RB m (l_rclears m p b t n k W) := by
  intro n
  induction n with
  | zero => intro k W; exact deeds_RB hG _ _ _ _ _ hp
  | succ n ih => intro k W; exact ih _ _
theorem readThread_RB {m : Nat → Nat → Int32} {W : Nat → Int32} {p b : Nat} (hG : PG m) (hp : p ≤ pe m) (hb : b ≤ p) : RB m (q_readThread m W p b) := RB.bif (rclears_RB hG hp _ _ _) (RB.mk hp hb (Or.inl rfl))
theorem num_RB {m : Nat → Nat → Int32} {W : Nat → Int32} {p : Nat} {lo hi v : Int32} (hG : PG m) (hp : p ≤ pe m) (hv : v = 0 ∨ v = 1) : RB m (v, W, (q_number m p lo hi).2.1, (q_number m p lo hi).2.2) := by
  have h := number_le (lo := lo) (hi := hi) hG hp
  exact RB.mk h.2.1 (by rw [h.2.2]; exact h.1) hv
theorem readWordLine_RB {m : Nat → Nat → Int32} {W : Nat → Int32} {p : Nat} (hG : PG m) (hp : p ≤ pe m) : RB m (q_readWordLine m W p) := RB.bif (RB.bif (num_RB hG (number_le hG hp).2.1 (Or.inr rfl)) (num_RB hG (number_le hG hp).2.1 (Or.inl rfl))) (num_RB hG hp (Or.inl rfl))
theorem readLock_b {W : Nat → Int32} {l w : Int32} : ∀ (n : Nat) (is : Int32) (o : Nat), is = 0 ∨ is = 1 → (l_readLock W l w n is o).1 = 0 ∨ (l_readLock W l w n is o).1 = 1 := by
  intro n
  induction n with
  | zero =>
    intro is o h
    unfold l_readLock
    cases zc1 .eq is with
    | true => exact h
    | false => exact h
  | succ n ih =>
    intro is o h
    unfold l_readLock
    cases zc1 .eq is with
    | true => exact h
    | false =>
      rw [cond_false]
      cases zc2 .eq (Int32.ofNat o) l with
      | true => exact ih _ _ (Or.inr rfl)
      | false =>
        rw [cond_false]
        cases zc2 .eq (W (16 + o)) w with
        | true => exact ih _ _ (Or.inl rfl)
        | false => exact ih _ _ (Or.inr rfl)
theorem readLock_RB {m : Nat → Nat → Int32} {W : Nat → Int32} {p : Nat} (hG : PG m) (hp : p ≤ pe m) : RB m (q_readLock m W p) := by
  have h1 := number_le (lo := Int32.ofNat 0) (hi := Int32.ofNat 3) hG hp
  have h2 := letters_le hG h1.2.1
  unfold q_readLock
  refine RB.bif (RB.bif (RB.bif (num_RB hG h2.1 (readLock_b _ _ _ (Or.inl rfl))) (num_RB hG h2.1 (readLock_b _ _ _ (Or.inr rfl)))) (RB.mk h2.1 h2.2 (Or.inl rfl))) (num_RB hG hp (Or.inl rfl))
theorem readTrust_b {v : Int32} : ∀ (n l : Nat) (W : Nat → Int32), (l_readTrust v n l W).1 = 0 ∨ (l_readTrust v n l W).1 = 1 := by
  intro n
  induction n with
  | zero =>
    intro l W
    unfold l_readTrust
    cases zc2 .eq v (-1) with
    | true => exact Or.inl rfl
    | false => exact Or.inr rfl
  | succ n ih =>
    intro l W
    unfold l_readTrust
    cases zc2 .eq v (-1) with
    | true => exact Or.inl rfl
    | false => exact ih _ _
theorem readTrust_RB {m : Nat → Nat → Int32} {W : Nat → Int32} {p : Nat} (hG : PG m) (hp : p ≤ pe m) : RB m (q_readTrust m W p) := num_RB hG hp (readTrust_b _ _ _)
noncomputable def q_readLine (m : Nat → Nat → Int32) (W : Nat → Int32) (p : Nat) (b : Nat) : Int32 × (Nat → Int32) × Nat × Nat := (bif zc1 .eq (q_isWord m p b 21) then (bif zc1 .eq (q_isWord m p b 22) then (bif zc1 .eq (q_isWord m p b 23) then (bif zc1 .eq (q_isWord m p b 24) then (bif zc1 .eq (q_isWord m p b 25) then (bif zc1 .ne (q_isWord m p b 26) then (bif zc1 .eq (q_isWord m p b 26) then ((Int32.ofNat 1), (upd W 8 ((Int32.ofNat 0))), p, b) else ((Int32.ofNat 1), (upd W 8 ((Int32.ofNat 1))), p, b)) else (bif zc1 .eq (q_isWord m p b 27) then (bif zc2 .eq (q_termHere m p b) (-1) then ((Int32.ofNat 0), W, p, b) else (bif zc1 .eq (q_readTo m W p ((((q_termHere m p b)).toNatClampNeg)) ((q_leastOf ((((q_termHere m p b)).toNatClampNeg)))) ((q_mostOf ((((q_termHere m p b)).toNatClampNeg))))).1 then ((Int32.ofNat 0), (q_readTo m W p ((((q_termHere m p b)).toNatClampNeg)) ((q_leastOf ((((q_termHere m p b)).toNatClampNeg)))) ((q_mostOf ((((q_termHere m p b)).toNatClampNeg))))).2.1, (q_readTo m W p ((((q_termHere m p b)).toNatClampNeg)) ((q_leastOf ((((q_termHere m p b)).toNatClampNeg)))) ((q_mostOf ((((q_termHere m p b)).toNatClampNeg))))).2.2.1, (q_readTo m W p ((((q_termHere m p b)).toNatClampNeg)) ((q_leastOf ((((q_termHere m p b)).toNatClampNeg)))) ((q_mostOf ((((q_termHere m p b)).toNatClampNeg))))).2.2.2) else ((Int32.ofNat 1), (q_readTo m W p ((((q_termHere m p b)).toNatClampNeg)) ((q_leastOf ((((q_termHere m p b)).toNatClampNeg)))) ((q_mostOf ((((q_termHere m p b)).toNatClampNeg))))).2.1, (q_readTo m W p ((((q_termHere m p b)).toNatClampNeg)) ((q_leastOf ((((q_termHere m p b)).toNatClampNeg)))) ((q_mostOf ((((q_termHere m p b)).toNatClampNeg))))).2.2.1, (q_readTo m W p ((((q_termHere m p b)).toNatClampNeg)) ((q_leastOf ((((q_termHere m p b)).toNatClampNeg)))) ((q_mostOf ((((q_termHere m p b)).toNatClampNeg))))).2.2.2))) else (bif zc1 .eq (q_isWord m p b 26) then ((Int32.ofNat 1), (upd W 8 ((Int32.ofNat 0))), p, b) else ((Int32.ofNat 1), (upd W 8 ((Int32.ofNat 1))), p, b)))) else (bif zc1 .ne (q_threads W) then ((Int32.ofNat 0), W, p, b) else (bif zc1 .eq (q_readTo m W p 0 ((Int32.ofNat 1)) ((Int32.ofNat 8))).1 then ((Int32.ofNat 0), (q_readTo m W p 0 ((Int32.ofNat 1)) ((Int32.ofNat 8))).2.1, (q_readTo m W p 0 ((Int32.ofNat 1)) ((Int32.ofNat 8))).2.2.1, (q_readTo m W p 0 ((Int32.ofNat 1)) ((Int32.ofNat 8))).2.2.2) else ((Int32.ofNat 1), (q_readTo m W p 0 ((Int32.ofNat 1)) ((Int32.ofNat 8))).2.1, (q_readTo m W p 0 ((Int32.ofNat 1)) ((Int32.ofNat 8))).2.2.1, (q_readTo m W p 0 ((Int32.ofNat 1)) ((Int32.ofNat 8))).2.2.2)))) else ((q_readTrust m W p).1, (q_readTrust m W p).2.1, (q_readTrust m W p).2.2.1, (q_readTrust m W p).2.2.2)) else ((q_readLock m W p).1, (q_readLock m W p).2.1, (q_readLock m W p).2.2.1, (q_readLock m W p).2.2.2)) else ((q_readWordLine m W p).1, (q_readWordLine m W p).2.1, (q_readWordLine m W p).2.2.1, (q_readWordLine m W p).2.2.2)) else ((q_readThread m W p b).1, (q_readThread m W p b).2.1, (q_readThread m W p b).2.2.1, (q_readThread m W p b).2.2.2))
theorem p_readLine {σ : Nat → Nat × (Nat → Int32)} {yy : (Nat → Nat → Int64) × Bool × Nat × Nat} {m : Nat → Nat → Int32} {W : Nat → Int32} {p b : Nat} {d : Nat} (hd : 7 ≤ d + 1) (hG : PG m) (hp : p ≤ pe m) (hbp : b ≤ p) (h9 : W 9 = Int32.ofNat (nv W 9) ∧ nv W 9 ≤ 4) : zEv σ (d + 1) 1860 0 [some (.ref 137), none] [] (zS1, zrow (TP m p b) 138 W, yy) (.inl (some (.int (q_readLine m W p b).1))) (zS1, zrow (TP m ((q_readLine m W p b).2.2.1) ((q_readLine m W p b).2.2.2)) 138 ((q_readLine m W p b).2.1), yy) := by
  refine zeP rfl rfl ?_
  refine zeS rfl rfl rfl ?_
  refine zeCF rfl rfl rfl rfl rfl rfl (c_isWord (s := 21) (m := m) (W := W) (p := p) (b := b) hG (by decide) hbp (by have := hG.2; omega)) (by omega) ?_
  dsimp only [Option.toList, List.cons_append, List.nil_append]
  refine zeB1 rfl rfl (fun h1 => ?_) (fun h1 => ?_)
  · refine zeP rfl rfl ?_
    refine zeS rfl rfl rfl ?_
    refine zeCF rfl rfl rfl rfl rfl rfl (c_isWord (s := 22) (m := m) (W := W) (p := p) (b := b) hG (by decide) hbp (by have := hG.2; omega)) (by omega) ?_
    dsimp only [Option.toList, List.cons_append, List.nil_append]
    refine zeB1 rfl rfl (fun h2 => ?_) (fun h2 => ?_)
    · refine zeP rfl rfl ?_
      refine zeS rfl rfl rfl ?_
      refine zeCF rfl rfl rfl rfl rfl rfl (c_isWord (s := 23) (m := m) (W := W) (p := p) (b := b) hG (by decide) hbp (by have := hG.2; omega)) (by omega) ?_
      dsimp only [Option.toList, List.cons_append, List.nil_append]
      refine zeB1 rfl rfl (fun h3 => ?_) (fun h3 => ?_)
      · refine zeP rfl rfl ?_
        refine zeS rfl rfl rfl ?_
        refine zeCF rfl rfl rfl rfl rfl rfl (c_isWord (s := 24) (m := m) (W := W) (p := p) (b := b) hG (by decide) hbp (by have := hG.2; omega)) (by omega) ?_
        dsimp only [Option.toList, List.cons_append, List.nil_append]
        refine zeB1 rfl rfl (fun h4 => ?_) (fun h4 => ?_)
        · refine zeP rfl rfl ?_
          refine zeS rfl rfl rfl ?_
          refine zeCF rfl rfl rfl rfl rfl rfl (c_isWord (s := 25) (m := m) (W := W) (p := p) (b := b) hG (by decide) hbp (by have := hG.2; omega)) (by omega) ?_
          dsimp only [Option.toList, List.cons_append, List.nil_append]
          refine zeB1 rfl rfl (fun h5 => ?_) (fun h5 => ?_)
          · refine zeP rfl rfl ?_
            refine zeS rfl rfl rfl ?_
            refine zeCF rfl rfl rfl rfl rfl rfl (c_isWord (s := 26) (m := m) (W := W) (p := p) (b := b) hG (by decide) hbp (by have := hG.2; omega)) (by omega) ?_
            dsimp only [Option.toList, List.cons_append, List.nil_append]
            refine zeB1 rfl rfl (fun h6 => ?_) (fun h6 => ?_)
            · refine zeP rfl rfl ?_
              refine zeGR rfl rfl zS137 rfl rfl ?_
              refine zeKn (c := 8) rfl rfl rfl ?_
              refine zeP rfl rfl ?_
              refine zeS rfl rfl rfl ?_
              refine zeCF rfl rfl rfl rfl rfl rfl (c_isWord (s := 26) (m := m) (W := W) (p := p) (b := b) hG (by decide) hbp (by have := hG.2; omega)) (by omega) ?_
              dsimp only [Option.toList, List.cons_append, List.nil_append]
              refine zeB1 rfl rfl (fun h7 => ?_) (fun h7 => ?_)
              · refine zeKn (c := 0) rfl rfl rfl ?_
                refine zeWS (k := 8) rfl (by omega) ?_
                refine zeKn (c := 1) rfl rfl rfl ?_
                exact zeRe rfl rfl rfl rfl (by simp only [q_readLine, h1, h2, h3, h4, h5, h6, h7, cond_true, cond_false] <;> rfl) (by simp only [q_readLine, h1, h2, h3, h4, h5, h6, h7, cond_true, cond_false] <;> rfl)
              · refine zeKn (c := 1) rfl rfl rfl ?_
                refine zeP rfl rfl ?_
                refine zeWS (k := 8) rfl (by omega) ?_
                refine zeKn (c := 1) rfl rfl rfl ?_
                exact zeRe rfl rfl rfl rfl (by simp only [q_readLine, h1, h2, h3, h4, h5, h6, h7, cond_true, cond_false] <;> rfl) (by simp only [q_readLine, h1, h2, h3, h4, h5, h6, h7, cond_true, cond_false] <;> rfl)
            · refine zeP rfl rfl ?_
              refine zeS rfl rfl rfl ?_
              refine zeCF rfl rfl rfl rfl rfl rfl (c_isWord (s := 27) (m := m) (W := W) (p := p) (b := b) hG (by decide) hbp (by have := hG.2; omega)) (by omega) ?_
              dsimp only [Option.toList, List.cons_append, List.nil_append]
              refine zeB1 rfl rfl (fun h8 => ?_) (fun h8 => ?_)
              · refine zeP rfl rfl ?_
                refine zeCF rfl rfl rfl rfl rfl rfl (c_termHere  (m := m) (W := W) (p := p) (b := b) hG hbp (by have := hG.2; omega)) (by omega) ?_
                dsimp only [Option.toList, List.cons_append, List.nil_append]
                refine zeP rfl rfl ?_
                refine zeP rfl rfl ?_
                refine zeK (v := -1) rfl rfl rfl ?_
                refine zeB2 rfl rfl (fun h9 => ?_) (fun h9 => ?_)
                · refine zeKn (c := 0) rfl rfl rfl ?_
                  exact zeRe rfl rfl rfl rfl (by simp only [q_readLine, h1, h2, h3, h4, h5, h6, h8, h9, cond_true, cond_false] <;> rfl) (by simp only [q_readLine, h1, h2, h3, h4, h5, h6, h8, h9, cond_true, cond_false] <;> rfl)
                · have htm : (q_termHere m p b) = Int32.ofNat ((q_termHere m p b)).toNatClampNeg ∧ ((q_termHere m p b)).toNatClampNeg ≤ 7 := (⟨(termHere_k h9).1, (termHere_k h9).2.1⟩)
                  refine zeP rfl rfl ?_
                  refine zeKn (c := ((q_termHere m p b)).toNatClampNeg) rfl rfl htm.1 ?_
                  refine zeKn (c := ((q_termHere m p b)).toNatClampNeg) rfl rfl htm.1 ?_
                  refine zeCF rfl rfl rfl rfl rfl rfl (c_leastOf (m := TP m p b) (W := W) (x := (((q_termHere m p b)).toNatClampNeg)) ) (by omega) ?_
                  dsimp only [Option.toList, List.cons_append, List.nil_append]
                  refine zeKn (c := ((q_termHere m p b)).toNatClampNeg) rfl rfl htm.1 ?_
                  refine zeCF rfl rfl rfl rfl rfl rfl (c_mostOf (m := TP m p b) (W := W) (x := (((q_termHere m p b)).toNatClampNeg)) (by omega)) (by omega) ?_
                  dsimp only [Option.toList, List.cons_append, List.nil_append]
                  refine zeCF rfl rfl rfl rfl rfl rfl (c_readTo (k := (((q_termHere m p b)).toNatClampNeg)) (lo := (q_leastOf ((((q_termHere m p b)).toNatClampNeg)))) (hi := (q_mostOf ((((q_termHere m p b)).toNatClampNeg)))) (m := m) (W := W) (p := p) (b := b) hG hp (by omega)) (by omega) ?_
                  dsimp only [Option.toList, List.cons_append, List.nil_append]
                  refine zeB1 rfl rfl (fun h10 => ?_) (fun h10 => ?_)
                  · refine zeKn (c := 0) rfl rfl rfl ?_
                    exact zeRe rfl rfl rfl rfl (by simp only [q_readLine, h1, h2, h3, h4, h5, h6, h8, h9, h10, cond_true, cond_false] <;> rfl) (by simp only [q_readLine, h1, h2, h3, h4, h5, h6, h8, h9, h10, cond_true, cond_false] <;> rfl)
                  · refine zeKn (c := 1) rfl rfl rfl ?_
                    refine zeP rfl rfl ?_
                    exact zeRe rfl rfl rfl rfl (by simp only [q_readLine, h1, h2, h3, h4, h5, h6, h8, h9, h10, cond_true, cond_false] <;> rfl) (by simp only [q_readLine, h1, h2, h3, h4, h5, h6, h8, h9, h10, cond_true, cond_false] <;> rfl)
              · refine zeP rfl rfl ?_
                refine zeGR rfl rfl zS137 rfl rfl ?_
                refine zeKn (c := 8) rfl rfl rfl ?_
                refine zeP rfl rfl ?_
                refine zeS rfl rfl rfl ?_
                refine zeCF rfl rfl rfl rfl rfl rfl (c_isWord (s := 26) (m := m) (W := W) (p := p) (b := b) hG (by decide) hbp (by have := hG.2; omega)) (by omega) ?_
                dsimp only [Option.toList, List.cons_append, List.nil_append]
                refine zeB1 rfl rfl (fun h11 => ?_) (fun h11 => ?_)
                · refine zeKn (c := 0) rfl rfl rfl ?_
                  refine zeWS (k := 8) rfl (by omega) ?_
                  refine zeKn (c := 1) rfl rfl rfl ?_
                  exact zeRe rfl rfl rfl rfl (by simp only [q_readLine, h1, h2, h3, h4, h5, h6, h8, h11, cond_true, cond_false] <;> rfl) (by simp only [q_readLine, h1, h2, h3, h4, h5, h6, h8, h11, cond_true, cond_false] <;> rfl)
                · refine zeKn (c := 1) rfl rfl rfl ?_
                  refine zeP rfl rfl ?_
                  refine zeWS (k := 8) rfl (by omega) ?_
                  refine zeKn (c := 1) rfl rfl rfl ?_
                  exact zeRe rfl rfl rfl rfl (by simp only [q_readLine, h1, h2, h3, h4, h5, h6, h8, h11, cond_true, cond_false] <;> rfl) (by simp only [q_readLine, h1, h2, h3, h4, h5, h6, h8, h11, cond_true, cond_false] <;> rfl)
          · refine zeP rfl rfl ?_
            refine zeCF rfl rfl rfl rfl rfl rfl (c_threads (m := TP m p b) (W := W)  ) (by omega) ?_
            dsimp only [Option.toList, List.cons_append, List.nil_append]
            refine zeB1 rfl rfl (fun h12 => ?_) (fun h12 => ?_)
            · refine zeKn (c := 0) rfl rfl rfl ?_
              exact zeRe rfl rfl rfl rfl (by simp only [q_readLine, h1, h2, h3, h4, h5, h12, cond_true, cond_false] <;> rfl) (by simp only [q_readLine, h1, h2, h3, h4, h5, h12, cond_true, cond_false] <;> rfl)
            · refine zeP rfl rfl ?_
              refine zeKn (c := 0) rfl rfl rfl ?_
              refine zeKn (c := 1) rfl rfl rfl ?_
              refine zeKn (c := 8) rfl rfl rfl ?_
              refine zeCF rfl rfl rfl rfl rfl rfl (c_readTo (k := 0) (lo := (Int32.ofNat 1)) (hi := (Int32.ofNat 8)) (m := m) (W := W) (p := p) (b := b) hG hp (by omega)) (by omega) ?_
              dsimp only [Option.toList, List.cons_append, List.nil_append]
              refine zeB1 rfl rfl (fun h13 => ?_) (fun h13 => ?_)
              · refine zeKn (c := 0) rfl rfl rfl ?_
                exact zeRe rfl rfl rfl rfl (by simp only [q_readLine, h1, h2, h3, h4, h5, h12, h13, cond_true, cond_false] <;> rfl) (by simp only [q_readLine, h1, h2, h3, h4, h5, h12, h13, cond_true, cond_false] <;> rfl)
              · refine zeKn (c := 1) rfl rfl rfl ?_
                refine zeP rfl rfl ?_
                exact zeRe rfl rfl rfl rfl (by simp only [q_readLine, h1, h2, h3, h4, h5, h12, h13, cond_true, cond_false] <;> rfl) (by simp only [q_readLine, h1, h2, h3, h4, h5, h12, h13, cond_true, cond_false] <;> rfl)
        · refine zeP rfl rfl ?_
          refine zeCF rfl rfl rfl rfl rfl rfl (c_readTrust  (m := m) (W := W) (p := p) (b := b) hG hp) (by omega) ?_
          dsimp only [Option.toList, List.cons_append, List.nil_append]
          exact zeRe rfl rfl rfl (zretB rfl rfl (readTrust_RB hG hp).2.2) (by simp only [q_readLine, h1, h2, h3, h4, cond_true, cond_false] <;> rfl) (by simp only [q_readLine, h1, h2, h3, h4, cond_true, cond_false] <;> rfl)
      · refine zeP rfl rfl ?_
        refine zeCF rfl rfl rfl rfl rfl rfl (c_readLock  (m := m) (W := W) (p := p) (b := b) hG hp) (by omega) ?_
        dsimp only [Option.toList, List.cons_append, List.nil_append]
        exact zeRe rfl rfl rfl (zretB rfl rfl (readLock_RB hG hp).2.2) (by simp only [q_readLine, h1, h2, h3, cond_true, cond_false] <;> rfl) (by simp only [q_readLine, h1, h2, h3, cond_true, cond_false] <;> rfl)
    · refine zeP rfl rfl ?_
      refine zeCF rfl rfl rfl rfl rfl rfl (c_readWordLine  (m := m) (W := W) (p := p) (b := b) hG hp) (by omega) ?_
      dsimp only [Option.toList, List.cons_append, List.nil_append]
      exact zeRe rfl rfl rfl (zretB rfl rfl (readWordLine_RB hG hp).2.2) (by simp only [q_readLine, h1, h2, cond_true, cond_false] <;> rfl) (by simp only [q_readLine, h1, h2, cond_true, cond_false] <;> rfl)
  · refine zeP rfl rfl ?_
    refine zeCF rfl rfl rfl rfl rfl rfl (c_readThread  (m := m) (W := W) (p := p) (b := b) hG hp h9) (by omega) ?_
    dsimp only [Option.toList, List.cons_append, List.nil_append]
    exact zeRe rfl rfl rfl (zretB rfl rfl (readThread_RB hG hp hbp).2.2) (by simp only [q_readLine, h1, cond_true, cond_false] <;> rfl) (by simp only [q_readLine, h1, cond_true, cond_false] <;> rfl)
theorem c_readLine {σ : Nat → Nat × (Nat → Int32)} {yy : (Nat → Nat → Int64) × Bool × Nat × Nat} {m : Nat → Nat → Int32} {W : Nat → Int32} {p b : Nat} (hG : PG m) (hp : p ≤ pe m) (hbp : b ≤ p) (h9 : W 9 = Int32.ofNat (nv W 9) ∧ nv W 9 ≤ 4) : zF σ 7 1860 [.ref 137] (zS1, zrow (TP m p b) 138 W, yy) (.inl (some (.int (q_readLine m W p b).1))) (zS1, zrow (TP m ((q_readLine m W p b).2.2.1) ((q_readLine m W p b).2.2.2)) 138 ((q_readLine m W p b).2.1), yy) := by
  intro d hd
  obtain ⟨d, rfl⟩ : ∃ k, d = k + 1 := ⟨d - 1, by omega⟩
  exact p_readLine hd hG hp hbp h9
theorem readLine_RB {m : Nat → Nat → Int32} {W : Nat → Int32} {p b : Nat} (hG : PG m) (hp : p ≤ pe m) (hb : b ≤ p) : RB m (q_readLine m W p b) := by
  have h0 : ∀ V, RB m (Int32.ofNat 0, V, p, b) := fun V => RB.mk hp hb (Or.inl rfl)
  have h1 : ∀ V, RB m (Int32.ofNat 1, V, p, b) := fun V => RB.mk hp hb (Or.inr rfl)
  have hr : ∀ (V V' : Nat → Int32) (k : Nat) (lo hi v : Int32), v = 0 ∨ v = 1 → RB m (v, V', (q_readTo m V p k lo hi).2.2.1, (q_readTo m V p k lo hi).2.2.2) := fun V V' k lo hi v hv => RB.mk (readTo_le hG hp).1 (readTo_le hG hp).2.1 hv
  unfold q_readLine
  refine RB.bif (RB.bif (RB.bif (RB.bif (RB.bif ?_ ?_) ?_) ?_) ?_) ?_
  · refine RB.bif (RB.bif (h1 _) (h1 _)) (RB.bif (RB.bif (h0 _) (RB.bif ?_ ?_)) (RB.bif (h1 _) (h1 _)))
    · exact hr W _ _ _ _ _ (Or.inl rfl)
    · exact hr W _ _ _ _ _ (Or.inr rfl)
  · refine RB.bif (h0 _) (RB.bif ?_ ?_)
    · exact hr W _ _ _ _ _ (Or.inl rfl)
    · exact hr W _ _ _ _ _ (Or.inr rfl)
  · exact RB.eta (readTrust_RB hG hp)
  · exact RB.eta (readLock_RB hG hp)
  · exact RB.eta (readWordLine_RB hG hp)
  · exact RB.eta (readThread_RB hG hp hb)
end
section
/-! a text that is read through leaves the world in order -/
theorem WG.low {W : Nat → Int32} (h : WG W) {k : Nat} {x : Int32} (hk : k < 24) (h0 : k = 0 → ok (upd W k x) k 1 8) (h2 : k = 2 → ok (upd W k x) k 1 4) (h7 : k = 7 → ok (upd W k x) k 1 9) (h9 : k = 9 → ok (upd W k x) k 0 4) (h14 : k ≠ 14 ∧ k ≠ 15) (hl : 16 ≤ k → k < 20 → ok (upd W k x) k 0 31) : WG (upd W k x) := by
  obtain ⟨⟨a0, a2, a7, a9, a14, a15, aK⟩, hT⟩ := h
  have key : ∀ {c lo hi : Nat}, ok W c lo hi → (k = c → ok (upd W k x) k lo hi) → ok (upd W k x) c lo hi := by
    intro c lo hi h1 h2
    by_cases e : k = c
    · subst e; exact h2 rfl
    · exact h1.of (upd_ne _ _ (fun q => e q.symm))
  refine ⟨⟨key a0 h0, key a2 h2, key a7 h7, key a9 h9, key a14 (fun e => absurd e h14.1), key a15 (fun e => absurd e h14.2), fun l hl4 => key (aK l hl4) (fun e => hl (by omega) (by omega))⟩, fun t ht => (hT t ht).same (fun c hc _ => upd_ne _ _ (by omega))⟩
theorem ok_upd {W : Nat → Int32} {k n lo hi : Nat} {x : Int32} (e : x = Int32.ofNat n) (h1 : lo ≤ n) (h2 : n ≤ hi) (h3 : hi ≤ 100000) : ok (upd W k x) k lo hi := ok.is (n := n) (by rw [upd_at]; exact e) h1 h2 (by omega)
/-- one more deed -/
theorem WG.deed {W V : Nat → Int32} (h : WG W) {t L : Nat} (ht : t < 4) (hL : nv W (376 + 103 * t + 22) = L) (hL2 : L < 24) (e : ∀ c, c ≠ 376 + 103 * t + 22 → c ≠ 376 + 103 * t + (55 + 2 * L) → c ≠ 376 + 103 * t + (55 + 2 * L + 1) → V c = W c) (h22 : V (376 + 103 * t + 22) = Int32.ofNat (L + 1)) (hD : DG V t L) : WG V := by
  refine ⟨h.1.of (fun j hj hc => e _ (by omega) (by omega) (by omega)) (WC_of (e _ (by omega) (by omega) (by omega)) h.C), fun u hu => ?_⟩
  by_cases hut : u = t
  · subst hut
    obtain ⟨b1, b2, b3, b4, b5, b6, b7, b8⟩ := h.2 u hu
    have hn : nv V (376 + 103 * u + 22) = L + 1 := by unfold nv; rw [h22]; exact nv_on (by omega)
    have e' : ∀ c, c < 55 → c ≠ 22 → V (376 + 103 * u + c) = W (376 + 103 * u + c) := fun c hc h22 => e _ (by omega) (by omega) (by omega)
    refine ⟨b1.of (e' _ (by omega) (by omega)), b2.of (e' _ (by omega) (by omega)), fun k hk => (b3 k hk).of (e' _ (by omega) (by omega)), ok.is h22 (by omega) (by omega) (by omega), ?_, ?_, ?_, fun p hp => ?_⟩
    · rw [hn]
      have := b5.of (e' 0 (by omega) (by omega))
      exact ⟨this.1, this.2.1, by have := this.2.2; omega⟩
    · rw [hn]
      have := b6.of (e' 18 (by omega) (by omega))
      exact ⟨this.1, this.2.1, by have := this.2.2; omega⟩
    · rw [e' 2 (by omega) (by omega), e' 10 (by omega) (by omega)]
      exact b7
    · by_cases hpL : p = L
      · subst hpL; exact hD
      · exact (b8 p hp).of (e _ (by omega) (by omega) (by omega)) (e _ (by omega) (by omega) (by omega))
  · exact (h.2 u hu).same (fun c hc _ => e _ (by omega) (by omega) (by omega))
theorem readDeed_WG {m : Nat → Nat → Int32} {W : Nat → Int32} {p t L : Nat} (hW : WG W) (ht : t < 4) (hL : W (376 + 103 * t + 22) = Int32.ofNat L) (hL2 : L ≤ 24) (h : ¬ (q_readDeed m W p t L).1 = 0) : WG (q_readDeed m W p t L).2.1 := by
  obtain ⟨K, n, g1, g2, g3, g4, g5, g6⟩ := readDeed_s h
  rw [g6]
  have eL : nv W (376 + 103 * t + 22) = L := by unfold nv; rw [hL]; exact nv_on (by omega)
  refine hW.deed ht eL (by omega) (fun c a1 a2 a3 => ?_) ?_ ?_
  · rw [upd_ne _ _ (by omega), upd_ne _ _ (by omega), upd_ne _ _ (by omega), upd_ne _ _ (by omega)]
  · rw [upd_ne _ _ (by omega), upd_at]
  · have e1 : upd (upd (upd (upd W (376 + 103 * t + (55 + 2 * L)) (Int32.ofNat K)) (376 + 103 * t + (55 + 2 * L) + 1) (Int32.ofNat 0)) (376 + 103 * t + 22) (Int32.ofNat (L + 1))) (376 + 103 * t + (55 + 2 * L) + 1) (Int32.ofNat n) (376 + 103 * t + (55 + 2 * L)) = Int32.ofNat K := by
      rw [upd_ne _ _ (by omega), upd_ne _ _ (by omega), upd_ne _ _ (by omega), upd_at]
    have e2 : upd (upd (upd (upd W (376 + 103 * t + (55 + 2 * L)) (Int32.ofNat K)) (376 + 103 * t + (55 + 2 * L) + 1) (Int32.ofNat 0)) (376 + 103 * t + 22) (Int32.ofNat (L + 1))) (376 + 103 * t + (55 + 2 * L) + 1) (Int32.ofNat n) (376 + 103 * t + (55 + 2 * L + 1)) = Int32.ofNat n := upd_at _ _ _
    refine ⟨ok.is e1 (by omega) g1 (by omega), ok.is e2 (by omega) g2 (by omega), ?_⟩
    unfold nv
    rw [e1, e2, nv_on (by omega), nv_on (by omega)]
    exact ⟨g3, g4⟩
/-- a reading that went well leaves the world in order -/
noncomputable def RW (X : Int32 × (Nat → Int32) × Nat × Nat) : Prop := ¬ X.1 = 0 → WG X.2.1
theorem RW.no {W : Nat → Int32} {p b : Nat} : RW (Int32.ofNat 0, W, p, b) := fun h => absurd rfl h
theorem RW.mk {v : Int32} {W : Nat → Int32} {p b : Nat} (h : WG W) : RW (v, W, p, b) := fun _ => h
theorem RW.eta {X : Int32 × (Nat → Int32) × Nat × Nat} (h : RW X) : RW (X.1, X.2.1, X.2.2.1, X.2.2.2) := h
theorem deeds_WG {m : Nat → Nat → Int32} {t : Nat} (ht : t < 4) : ∀ (n L : Nat) (W : Nat → Int32) (p b : Nat), L + n = 24 → WG W → W (376 + 103 * t + 22) = Int32.ofNat L → RW (l_deeds m t n L W p b) := by
  intro n
  induction n with
  | zero => intro L W p b _ _ _; exact RW.no
  | succ n ih =>
    intro L W p b hk hW hL
    unfold l_deeds
    refine cnd4 RW (fun h1 => ?_) (fun _ => RW.no)
    have hV := readDeed_WG (m := m) (p := p) hW ht hL (by omega) (ne1 h1)
    have hL' := readDeed_L (by omega) h1
    exact cnd4 RW (fun _ => ih _ _ _ _ (by omega) hV hL'.1) (fun _ => RW.mk hV)
theorem WG.fresh {W V : Nat → Int32} (h : WG W) {t : Nat} (ht : t < 4) (e : ∀ c, c < 376 + 103 * t ∨ 376 + 103 * t + 103 ≤ c → c ≠ 9 → V c = W c) (h9 : V 9 = Int32.ofNat (t + 1)) (hz : ∀ c, c < 103 → V (376 + 103 * t + c) = Int32.ofNat 0) : WG V := by
  obtain ⟨⟨a0, a2, a7, a9, a14, a15, aK⟩, hT⟩ := h
  refine ⟨⟨a0.of (e _ (by omega) (by omega)), a2.of (e _ (by omega) (by omega)), a7.of (e _ (by omega) (by omega)), ok.is h9 (by omega) (by omega) (by omega), a14.of (e _ (by omega) (by omega)), a15.of (e _ (by omega) (by omega)), fun l hl => (aK l hl).of (e _ (by omega) (by omega))⟩, fun u hu => ?_⟩
  by_cases hut : u = t
  · subst hut
    have z : ∀ c, c < 103 → nv V (376 + 103 * u + c) = 0 := fun c hc => by unfold nv; rw [hz c hc]; rfl
    refine ⟨ok.is (hz 2 (by omega)) (by omega) (by omega) (by omega), ok.is (hz 10 (by omega)) (by omega) (by omega) (by omega), fun k hk => ok.is (hz _ (by omega)) (by omega) (by omega) (by omega), ok.is (hz 22 (by omega)) (by omega) (by omega) (by omega), ok.is (hz 0 (by omega)) (by omega) (by omega) (by omega), ok.is (hz 18 (by omega)) (by omega) (by omega) (by omega), fun _ => hz 10 (by omega), fun p hp => ⟨ok.is (hz _ (by omega)) (by omega) (by omega) (by omega), ok.is (hz (55 + 2 * p + 1) (by omega)) (by omega) (by omega) (by omega), fun _ => ?_, fun _ => ?_⟩⟩
    · rw [z (55 + 2 * p + 1) (by omega)]; omega
    · rw [z (55 + 2 * p + 1) (by omega)]; omega
  · exact (hT u hu).same (fun c hc _ => e _ (by omega) (by omega))
theorem rclears_WG {m : Nat → Nat → Int32} {p b t : Nat} {W0 : Nat → Int32} (hW : WG W0) (ht : t < 4) : ∀ (n k : Nat) (W : Nat → Int32), k + n = 103 → (∀ c, c < 376 + 103 * t ∨ 376 + 103 * t + 103 ≤ c → W c = W0 c) → (∀ c, c < k → W (376 + 103 * t + c) = Int32.ofNat 0) → RW (l_rclears m p b t n k W) := by
  intro n
  induction n with
  | zero =>
    intro k W hk e hz
    have hz0 : ∀ c, c < 103 → upd W 9 (Int32.ofNat (t + 1)) (376 + 103 * t + c) = Int32.ofNat 0 := fun c hc => by rw [upd_ne _ _ (by omega)]; exact hz c (by omega)
    unfold l_rclears q_thread37
    exact deeds_WG ht 24 0 _ _ _ (by omega) (hW.fresh ht (fun c hc h9 => by rw [upd_ne _ _ h9]; exact e c hc) (upd_at _ _ _) hz0) (hz0 22 (by omega))
  | succ n ih =>
    intro k W hk e hz
    unfold l_rclears
    exact ih _ _ (by omega) (fun c hc => by rw [upd_ne _ _ (by omega)]; exact e c hc) (clr_step hz)
theorem readThread_WG {m : Nat → Nat → Int32} {W : Nat → Int32} {p b : Nat} (hW : WG W) : RW (q_readThread m W p b) := by
  unfold q_readThread
  refine cnd4 RW (fun h4 => ?_) (fun _ => RW.no)
  have := tne_t h4
  have := hW.N4
  exact rclears_WG hW (by omega) _ _ _ (by omega) (fun _ _ => rfl) (fun c hc => absurd hc (Nat.not_lt_zero _))
theorem readWordLine_WG {m : Nat → Nat → Int32} {W : Nat → Int32} {p : Nat} (hW : WG W) : RW (q_readWordLine m W p) := by
  unfold q_readWordLine
  refine cnd4 RW (fun h1 => cnd4 RW (fun _ => ?_) (fun _ => RW.no)) (fun _ => RW.no)
  have := number_k (by omega) (by omega) (zne_t h1)
  exact RW.mk ((hW.put _ (fre_lo (by omega) (by omega))).put _ (fre_lo (by omega) (by omega)))
theorem readLock_in {W : Nat → Int32} {l w : Int32} (P : (Nat → Int32) → Prop) (h0 : P W) (h1 : P (upd W (16 + l.toNatClampNeg) w)) : ∀ (n : Nat) (is : Int32) (o : Nat), P (l_readLock W l w n is o).2 := by
  intro n
  induction n with
  | zero =>
    intro is o
    unfold l_readLock
    cases zc1 .eq is with
    | true => exact h0
    | false => exact h1
  | succ n ih =>
    intro is o
    unfold l_readLock
    cases zc1 .eq is with
    | true => exact h0
    | false =>
      rw [cond_false]
      cases zc2 .eq (Int32.ofNat o) l with
      | true => exact ih _ _
      | false =>
        rw [cond_false]
        cases zc2 .eq (W (16 + o)) w with
        | true => exact ih _ _
        | false => exact ih _ _
theorem readLock_0 {W : Nat → Int32} {l w : Int32} (n o : Nat) : (l_readLock W l w n (Int32.ofNat 0) o).2 = W ∧ (l_readLock W l w n (Int32.ofNat 0) o).1 = 0 := by
  cases n with
  | zero => exact ⟨rfl, rfl⟩
  | succ n => exact ⟨rfl, rfl⟩
theorem readLock_WG {m : Nat → Nat → Int32} {W : Nat → Int32} {p : Nat} (hW : WG W) : RW (q_readLock m W p) := by
  unfold q_readLock
  refine cnd4 RW (fun h1 => cnd4 RW (fun _ => cnd4 RW (fun _ => ?_) (fun h2 => ?_)) (fun _ => RW.no)) (fun _ => RW.no)
  · exact fun h => absurd (readLock_0 _ _).2 h
  · have k1 := number_k (by omega) (by omega) (zne_t h1)
    have k2 := number_k (by omega) (by omega) (zeq_f h2)
    exact RW.mk (readLock_in WG hW (hW.low (by omega) (by omega) (by omega) (by omega) (by omega) (by omega) (fun _ _ => ok_upd k2.1 (by omega) k2.2.1 (by omega))) _ _ _)
theorem readTrust_in {v : Int32} (P : (Nat → Int32) → Prop) (hP : ∀ W l, l < 4 → P W → P (upd W (20 + l) v)) : ∀ (n l : Nat) (W : Nat → Int32), l + n = 4 → P W → P (l_readTrust v n l W).2 := by
  intro n
  induction n with
  | zero =>
    intro l W _ h
    unfold l_readTrust
    cases zc2 .eq v (-1) with
    | true => exact h
    | false => exact h
  | succ n ih =>
    intro l W hk h
    unfold l_readTrust
    cases zc2 .eq v (-1) with
    | true => exact h
    | false => exact ih _ _ (by omega) (hP _ _ (by omega) h)
theorem readTrust_WG {m : Nat → Nat → Int32} {W : Nat → Int32} {p : Nat} (hW : WG W) : WG (q_readTrust m W p).2.1 := readTrust_in WG (fun V l hl hV => hV.put _ (fre_lo (by omega) (by omega))) 4 0 W (by omega) hW
/-- what a term may be -/
theorem term_bd : ∀ x, x ≤ 8 → ∃ a c, q_leastOf x = Int32.ofNat a ∧ q_mostOf x = Int32.ofNat c ∧ a ≤ 9999 ∧ c ≤ 9999 ∧ (x = 2 → a = 1 ∧ c = 4) ∧ (x = 7 → a = 1 ∧ c = 9) := by
  intro x hx
  match x, hx with
  | 0, _ => exact ⟨1, 9, rfl, rfl, by omega, by omega, by omega, by omega⟩
  | 1, _ => exact ⟨1, 9, rfl, rfl, by omega, by omega, by omega, by omega⟩
  | 2, _ => exact ⟨1, 4, rfl, rfl, by omega, by omega, by omega, by omega⟩
  | 3, _ => exact ⟨1, 8, rfl, rfl, by omega, by omega, by omega, by omega⟩
  | 4, _ => exact ⟨0, 16, rfl, rfl, by omega, by omega, by omega, by omega⟩
  | 5, _ => exact ⟨0, 9, rfl, rfl, by omega, by omega, by omega, by omega⟩
  | 6, _ => exact ⟨0, 15, rfl, rfl, by omega, by omega, by omega, by omega⟩
  | 7, _ => exact ⟨1, 9, rfl, rfl, by omega, by omega, by omega, by omega⟩
  | 8, _ => exact ⟨0, 1, rfl, rfl, by omega, by omega, by omega, by omega⟩
  | k + 9, h => exact absurd h (by omega)
theorem eq1 {x : Int32} (h : zc1 .eq x = false) : ¬ x = 0 := of_decide_eq_false h
theorem readLine_WG {m : Nat → Nat → Int32} {W : Nat → Int32} {p b : Nat} (hW : WG W) : RW (q_readLine m W p b) := by
  have u8 : ∀ x, RW (Int32.ofNat 1, upd W 8 x, p, b) := fun x => RW.mk (hW.put _ (fre_lo (by omega) (by omega)))
  unfold q_readLine
  refine cnd4 RW (fun _ => cnd4 RW (fun _ => cnd4 RW (fun _ => cnd4 RW (fun _ => cnd4 RW (fun _ => ?_) (fun _ => ?_)) (fun _ => ?_)) (fun _ => ?_)) (fun _ => ?_)) (fun _ => ?_)
  · refine cnd4 RW (fun _ => cnd4 RW (fun _ => u8 _) (fun _ => u8 _)) (fun _ => cnd4 RW (fun _ => cnd4 RW (fun _ => RW.no) (fun ht => ?_)) (fun _ => cnd4 RW (fun _ => u8 _) (fun _ => u8 _)))
    have hT := (termHere_k ht).2
    revert hT
    generalize (q_termHere m p b).toNatClampNeg = x
    intro hT
    obtain ⟨a, c, e1, e2, e3, e4, e5, e6⟩ := term_bd x (by omega)
    rw [e1, e2]
    refine cnd4 RW (fun _ => RW.no) (fun h1 => ?_)
    obtain ⟨n, g1, g2, g3⟩ := readTo_ok e3 e4 (eq1 h1)
    refine RW.mk ?_
    rw [g3]
    refine hW.low (by omega) (by omega) (fun h => ok_upd rfl ?_ ?_ (by omega)) (fun h => ok_upd rfl ?_ ?_ (by omega)) (by omega) (by omega) (by omega)
    · have := e5 h; omega
    · have := e5 h; omega
    · have := e6 h; omega
    · have := e6 h; omega
  · refine cnd4 RW (fun _ => RW.no) (fun _ => cnd4 RW (fun _ => RW.no) (fun h1 => ?_))
    obtain ⟨n, g1, g2, g3⟩ := readTo_ok (by omega) (by omega) (eq1 h1)
    refine RW.mk ?_
    rw [g3]
    exact hW.low (by omega) (fun _ => ok_upd rfl g1 g2 (by omega)) (by omega) (by omega) (by omega) (by omega) (by omega)
  · exact RW.eta (RW.mk (readTrust_WG hW))
  · exact RW.eta (readLock_WG hW)
  · exact RW.eta (readWordLine_WG hW)
  · exact RW.eta (readThread_WG hW)
end
section
theorem teq_t {a b : Nat} (h : a = b) : zc2 .eq (Int32.ofNat a) (Int32.ofNat b) = true := by
  subst h
  exact decide_eq_true rfl
theorem teq_f {a b : Nat} (ha : a ≤ 100000) (hb : b ≤ 100000) (h : a ≠ b) : zc2 .eq (Int32.ofNat a) (Int32.ofNat b) = false := by
  apply decide_eq_false
  intro e
  have h3 := congrArg Int32.toInt e
  rw [zoN (by omega), zoN (by omega)] at h3
  omega
theorem WG.T9 {W : Nat → Int32} (h : WG W) : W 9 = Int32.ofNat (nv W 9) ∧ nv W 9 ≤ 4 := ⟨h.N, h.N4⟩
noncomputable def l_readText (m : Nat → Nat → Int32) : Nat → Nat → (Nat → Int32) → Nat → Nat → Int32 × (Nat → Int32) × Nat × Nat
  | 0, k, W, p, b => ((Int32.ofNat 0), W, (q_letters m p).1, (q_letters m p).2)
  | n + 1, k, W, p, b => (bif zc1 .ne (q_readLine m W ((q_letters m p).1) ((q_letters m p).2)).1 then (bif zc2 .ne (Int32.ofNat (skB m ((q_readLine m W ((q_letters m p).1) ((q_letters m p).2)).2.2.1))) (Int32.ofNat (pe m)) then (bif zc1 .ne (q_passesSign m ((skB m ((q_readLine m W ((q_letters m p).1) ((q_letters m p).2)).2.2.1))) 59).1 then (l_readText m n ((k + 1)) ((q_readLine m W ((q_letters m p).1) ((q_letters m p).2)).2.1) ((q_passesSign m ((skB m ((q_readLine m W ((q_letters m p).1) ((q_letters m p).2)).2.2.1))) 59).2.1) ((q_passesSign m ((skB m ((q_readLine m W ((q_letters m p).1) ((q_letters m p).2)).2.2.1))) 59).2.2)) else ((Int32.ofNat 0), (q_readLine m W ((q_letters m p).1) ((q_letters m p).2)).2.1, (q_passesSign m ((skB m ((q_readLine m W ((q_letters m p).1) ((q_letters m p).2)).2.2.1))) 59).2.1, (q_passesSign m ((skB m ((q_readLine m W ((q_letters m p).1) ((q_letters m p).2)).2.2.1))) 59).2.2)) else ((Int32.ofNat 1), (q_readLine m W ((q_letters m p).1) ((q_letters m p).2)).2.1, (skB m ((q_readLine m W ((q_letters m p).1) ((q_letters m p).2)).2.2.1)), (skB m ((q_readLine m W ((q_letters m p).1) ((q_letters m p).2)).2.2.1)))) else ((Int32.ofNat 0), (q_readLine m W ((q_letters m p).1) ((q_letters m p).2)).2.1, (q_readLine m W ((q_letters m p).1) ((q_letters m p).2)).2.2.1, (q_readLine m W ((q_letters m p).1) ((q_letters m p).2)).2.2.2))
theorem w_readText {σ : Nat → Nat × (Nat → Int32)} {yy : (Nat → Nat → Int64) × Bool × Nat × Nat} {m : Nat → Nat → Int32} {d : Nat} (hd : 8 ≤ d + 1) (hG : PG m) : ∀ (n : Nat) (k : Nat) (W : (Nat → Int32)) (p : Nat) (b : Nat), k + n = 14 → p ≤ pe m → WG W → zEv σ (d + 1) 1861 19 [some (.ref 137), some (.int (Int32.ofNat k))] [] (zS1, zrow (TP m p b) 138 W, yy) (.inl (some (.int (l_readText m n k W p b).1))) (zS1, zrow (TP m ((l_readText m n k W p b).2.2.1) ((l_readText m n k W p b).2.2.2)) 138 ((l_readText m n k W p b).2.1), yy) := by
  intro n
  induction n with
  | zero =>
    intro k W p b hk hp hW
    refine zeP rfl rfl ?_
    refine zeCF rfl rfl rfl rfl rfl rfl (c_letters  (m := m) (W := W) (p := p) (b := b) hG hp) (by omega) ?_
    dsimp only [Option.toList, List.cons_append, List.nil_append]
    refine zeP rfl rfl ?_
    refine zeKn (c := 14) rfl rfl rfl ?_
    refine zeT2 rfl rfl (teq_t (by omega)) ?_
    refine zeKn (c := 0) rfl rfl rfl ?_
    exact zeRe rfl rfl rfl rfl (by rfl) (by rfl)
  | succ n ih =>
    intro k W p b hk hp hW
    refine zeP rfl rfl ?_
    refine zeCF rfl rfl rfl rfl rfl rfl (c_letters  (m := m) (W := W) (p := p) (b := b) hG hp) (by omega) ?_
    dsimp only [Option.toList, List.cons_append, List.nil_append]
    refine zeP rfl rfl ?_
    refine zeKn (c := 14) rfl rfl rfl ?_
    refine zeF2 rfl rfl (teq_f (by omega) (by omega) (by omega)) ?_
    refine zeP rfl rfl ?_
    refine zeCF rfl rfl rfl rfl rfl rfl (c_readLine  (m := m) (W := W) (p := (q_letters m p).1) (b := (q_letters m p).2) hG (letters_le hG hp).1 (letters_le hG hp).2 hW.T9) (by omega) ?_
    dsimp only [Option.toList, List.cons_append, List.nil_append]
    refine zeB1 rfl rfl (fun h1 => ?_) (fun h1 => ?_)
    · refine zeP rfl rfl ?_
      refine zeCF rfl rfl rfl rfl rfl rfl (c_blanks (m := m) (W := (q_readLine m W ((q_letters m p).1) ((q_letters m p).2)).2.1) (p := (q_readLine m W ((q_letters m p).1) ((q_letters m p).2)).2.2.1) (b := (q_readLine m W ((q_letters m p).1) ((q_letters m p).2)).2.2.2)  hG (readLine_RB hG (letters_le hG hp).1 (letters_le hG hp).2).1) (by omega) ?_
      dsimp only [Option.toList, List.cons_append, List.nil_append]
      refine zeP rfl rfl ?_
      refine zeTp rfl rfl ?_
      refine zeP rfl rfl ?_
      refine zeTe hG.1 rfl rfl ?_
      refine zeB2 rfl rfl (fun h2 => ?_) (fun h2 => ?_)
      · refine zeP rfl rfl ?_
        refine zeKn (c := 59) rfl rfl rfl ?_
        refine zeCF rfl rfl rfl rfl rfl rfl (c_passesSign (c := 59) (m := m) (W := (q_readLine m W ((q_letters m p).1) ((q_letters m p).2)).2.1) (p := (skB m ((q_readLine m W ((q_letters m p).1) ((q_letters m p).2)).2.2.1))) (b := (skB m ((q_readLine m W ((q_letters m p).1) ((q_letters m p).2)).2.2.1))) hG (skB_le hG (readLine_RB hG (letters_le hG hp).1 (letters_le hG hp).2).1).2) (by omega) ?_
        dsimp only [Option.toList, List.cons_append, List.nil_append]
        refine zeB1 rfl rfl (fun h3 => ?_) (fun h3 => ?_)
        · refine zeInc rfl rfl ?_
          refine zeP rfl rfl ?_
          simp only [l_readText, h1, h2, h3, cond_true, cond_false]
          exact ih ((k + 1)) ((q_readLine m W ((q_letters m p).1) ((q_letters m p).2)).2.1) ((q_passesSign m ((skB m ((q_readLine m W ((q_letters m p).1) ((q_letters m p).2)).2.2.1))) 59).2.1) ((q_passesSign m ((skB m ((q_readLine m W ((q_letters m p).1) ((q_letters m p).2)).2.2.1))) 59).2.2) (by omega) (passes_le hG (skB_le hG (readLine_RB hG (letters_le hG hp).1 (letters_le hG hp).2).1).2).1 (readLine_WG hW (ne1 h1))
        · refine zeKn (c := 0) rfl rfl rfl ?_
          exact zeRe rfl rfl rfl rfl (by simp only [l_readText, h1, h2, h3, cond_true, cond_false] <;> rfl) (by simp only [l_readText, h1, h2, h3, cond_true, cond_false] <;> rfl)
      · refine zeKn (c := 1) rfl rfl rfl ?_
        exact zeRe rfl rfl rfl rfl (by simp only [l_readText, h1, h2, cond_true, cond_false] <;> rfl) (by simp only [l_readText, h1, h2, cond_true, cond_false] <;> rfl)
    · refine zeKn (c := 0) rfl rfl rfl ?_
      exact zeRe rfl rfl rfl rfl (by simp only [l_readText, h1, cond_true, cond_false] <;> rfl) (by simp only [l_readText, h1, cond_true, cond_false] <;> rfl)
noncomputable def q_readText (m : Nat → Nat → Int32) (W : Nat → Int32) (p : Nat) : Int32 × (Nat → Int32) × Nat × Nat := (bif zc2 .ne (Int32.ofNat (skB m p)) (Int32.ofNat (pe m)) then (l_readText m 14 0 W ((skB m p)) ((skB m p))) else ((Int32.ofNat 1), W, (skB m p), (skB m p)))
theorem p_readText {σ : Nat → Nat × (Nat → Int32)} {yy : (Nat → Nat → Int64) × Bool × Nat × Nat} {m : Nat → Nat → Int32} {W : Nat → Int32} {p b : Nat} {d : Nat} (hd : 8 ≤ d + 1) (hG : PG m) (hp : p ≤ pe m) (hW : WG W) : zEv σ (d + 1) 1861 0 [some (.ref 137), none] [] (zS1, zrow (TP m p b) 138 W, yy) (.inl (some (.int (q_readText m W p).1))) (zS1, zrow (TP m ((q_readText m W p).2.2.1) ((q_readText m W p).2.2.2)) 138 ((q_readText m W p).2.1), yy) := by
  refine zeP rfl rfl ?_
  refine zeCF rfl rfl rfl rfl rfl rfl (c_blanks (m := m) (W := W) (p := p) (b := b)  hG hp) (by omega) ?_
  dsimp only [Option.toList, List.cons_append, List.nil_append]
  refine zeP rfl rfl ?_
  refine zeTp rfl rfl ?_
  refine zeP rfl rfl ?_
  refine zeTe hG.1 rfl rfl ?_
  refine zeB2 rfl rfl (fun h1 => ?_) (fun h1 => ?_)
  · refine zeKn (c := 0) rfl rfl rfl ?_
    refine zeP rfl rfl ?_
    simp only [q_readText, h1, cond_true, cond_false]
    exact w_readText  (m := m) (by omega) hG 14 (0) W ((skB m p)) ((skB m p)) (by omega) (skB_le hG hp).2 hW
  · refine zeKn (c := 1) rfl rfl rfl ?_
    exact zeRe rfl rfl rfl rfl (by simp only [q_readText, h1, cond_true, cond_false] <;> rfl) (by simp only [q_readText, h1, cond_true, cond_false] <;> rfl)
theorem c_readText {σ : Nat → Nat × (Nat → Int32)} {yy : (Nat → Nat → Int64) × Bool × Nat × Nat} {m : Nat → Nat → Int32} {W : Nat → Int32} {p b : Nat} (hG : PG m) (hp : p ≤ pe m) (hW : WG W) : zF σ 8 1861 [.ref 137] (zS1, zrow (TP m p b) 138 W, yy) (.inl (some (.int (q_readText m W p).1))) (zS1, zrow (TP m ((q_readText m W p).2.2.1) ((q_readText m W p).2.2.2)) 138 ((q_readText m W p).2.1), yy) := by
  intro d hd
  obtain ⟨d, rfl⟩ : ∃ k, d = k + 1 := ⟨d - 1, by omega⟩
  exact p_readText hd hG hp hW
/-- a text read: its bounds, its world -/
noncomputable def RT (m : Nat → Nat → Int32) (X : Int32 × (Nat → Int32) × Nat × Nat) : Prop := RB m X ∧ RW X
theorem RT.mk {m : Nat → Nat → Int32} {v : Int32} {W : Nat → Int32} {p b : Nat} (h1 : p ≤ pe m) (h2 : b ≤ p) (h3 : v = 0 ∨ v = 1) (h4 : RW (v, W, p, b)) : RT m (v, W, p, b) := ⟨RB.mk h1 h2 h3, h4⟩
theorem l_readText_WG {m : Nat → Nat → Int32} (hG : PG m) : ∀ (n k : Nat) (W : Nat → Int32) (p b : Nat), p ≤ pe m → WG W → RT m (l_readText m n k W p b) := by
  intro n
  induction n with
  | zero =>
    intro k W p b hp hW
    have h1 := letters_le hG hp
    exact RT.mk h1.1 h1.2 (Or.inl rfl) RW.no
  | succ n ih =>
    intro k W p b hp hW
    have h1 := letters_le hG hp
    have h2 := readLine_RB (W := W) hG h1.1 h1.2
    have h3 := skB_le hG h2.1
    have h4 := passes_le (c := 59) hG h3.2
    unfold l_readText
    refine cnd4 (RT m) (fun h5 => ?_) (fun _ => RT.mk h2.1 h2.2.1 (Or.inl rfl) RW.no)
    have h6 := readLine_WG hW (ne1 h5)
    refine cnd4 (RT m) (fun _ => cnd4 (RT m) (fun _ => ih _ _ _ _ h4.1 h6) (fun _ => RT.mk h4.1 h4.2 (Or.inl rfl) RW.no)) (fun _ => RT.mk h3.2 (Nat.le_refl _) (Or.inr rfl) (RW.mk h6))
theorem readText_WG {m : Nat → Nat → Int32} {W : Nat → Int32} {p : Nat} (hG : PG m) (hp : p ≤ pe m) (hW : WG W) : RT m (q_readText m W p) := by
  have h3 := skB_le hG hp
  unfold q_readText
  exact cnd4 (RT m) (fun _ => l_readText_WG hG _ _ _ _ _ h3.2 hW) (fun _ => RT.mk h3.2 (Nat.le_refl _) (Or.inr rfl) (RW.mk hW))
end
section
/-! rules: the reference's other rows -/
section ZRR
variable {σ : Nat → Nat × (Nat → Int32)} {d j pc : Nat} {lv : zLv} {r st : List Value} {m : Nat → Nat → Int32} {W : Nat → Int32} {y : (Nat → Nat → Int64) × Bool × Nat × Nat} {o : zO} {M M' : zMem}
theorem zrow_o {a b : Nat} (h : b ≠ a) : zrow m a W b = m b := if_neg h
theorem zeQL {a n k : Nat} {rs : List Nat} (hf : zfe j pc = some (.iaload, 1)) (ha : Nat.blt a 1000 = true) (h8 : a ≠ 138) (hS : zS1[a]? = some (10, n, rs)) (hn : Nat.ble n 2000 = true) (hk : k < n) (kk : zEv σ d j (pc + 1) lv (.int (m a k) :: r) (zS1, zrow m 138 W, y) o M') : zEv σ d j pc lv (.int (Int32.ofNat k) :: .ref a :: r) (zS1, zrow m 138 W, y) o M' := by
  refine zeAL hf ha hS hn hk ?_
  rw [zrow_o h8]
  exact kk
theorem zeQS {a n k : Nat} {rs : List Nat} {x : Int32} (hf : zfe j pc = some (.iastore, 1)) (h8 : a ≠ 138) (hS : zS1[a]? = some (10, n, rs)) (hn : Nat.ble n 2000 = true) (hk : k < n) (kk : zEv σ d j (pc + 1) lv r (zS1, zrow (zm2 m a k x) 138 W, y) o M') : zEv σ d j pc lv (.int x :: .int (Int32.ofNat k) :: .ref a :: r) (zS1, zrow m 138 W, y) o M' := by
  refine zeAS hf hS hn hk ?_
  rw [zm2_com _ _ _ _ _ _ h8]
  exact kk
theorem zeQBL {a n k : Nat} {rs : List Nat} (hf : zfe j pc = some (.baload, 1)) (h8 : a ≠ 138) (hS : zS1[a]? = some (11, n, rs)) (hn : Nat.ble n 2000 = true) (hk : k < n) (kk : zEv σ d j (pc + 1) lv (.int (m a k) :: r) (zS1, zrow m 138 W, y) o M') : zEv σ d j pc lv (.int (Int32.ofNat k) :: .ref a :: r) (zS1, zrow m 138 W, y) o M' := by
  refine zeBL hf hS hn hk ?_
  rw [zrow_o h8]
  exact kk
theorem zeQBS {a n k : Nat} {rs : List Nat} {x : Int32} (hf : zfe j pc = some (.bastore, 1)) (h8 : a ≠ 138) (hS : zS1[a]? = some (11, n, rs)) (hn : Nat.ble n 2000 = true) (hk : k < n) (kk : zEv σ d j (pc + 1) lv r (zS1, zrow (zm2 m a k (vp_nar .byte x)) 138 W, y) o M') : zEv σ d j pc lv (.int x :: .int (Int32.ofNat k) :: .ref a :: r) (zS1, zrow m 138 W, y) o M' := by
  refine zeBS hf hS hn hk ?_
  rw [zm2_com _ _ _ _ _ _ h8]
  exact kk
end ZRR
theorem zm2_a (m : Nat → Nat → Int32) (a k : Nat) (x : Int32) : zm2 m a k x a k = x := by
  unfold zm2
  rw [if_pos rfl]
  exact upd_at _ _ _
theorem zm2_k (m : Nat → Nat → Int32) {a k l : Nat} (x : Int32) (h : l ≠ k) : zm2 m a k x a l = m a l := by
  unfold zm2
  rw [if_pos rfl]
  exact upd_ne _ _ h
theorem zm2_i (m : Nat → Nat → Int32) {a k i : Nat} (x : Int32) (h : i ≠ a) : zm2 m a k x i = m i := if_neg h
theorem zdiv4 {k : Nat} (h : k < 20) : Int32.ofNat k / Int32.ofNat 4 = Int32.ofNat (k / 4) := by
  have e : ∀ k, k < 20 → Int32.ofNat k / Int32.ofNat 4 = Int32.ofNat (k / 4) := by decide
  exact e k h
theorem zrem4 {k : Nat} (h : k < 20) : Int32.ofNat k - Int32.ofNat k / Int32.ofNat 4 * Int32.ofNat 4 = Int32.ofNat (k % 4) := by
  have e : ∀ k, k < 20 → Int32.ofNat k - Int32.ofNat k / Int32.ofNat 4 * Int32.ofNat 4 = Int32.ofNat (k % 4) := by decide
  exact e k h
noncomputable def tp (m : Nat → Nat → Int32) : Nat := (m 137 7).toNatClampNeg
end
